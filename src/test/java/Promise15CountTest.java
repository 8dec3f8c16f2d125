/** Promise 15: count. */
final class Promise15CountTest {
    public static void main(String[] args) {
        Check check = new Check("promise 15, count");
        GroupLedger ledger = Scene.funded(1000);
        for (int what : new int[] {-1, 9, 10, Check.MAX, Check.MIN_INT}) {
            check.due("count(" + what + ")", ledger.count(what), Check.REFUSED);
        }
        for (int app = 0; app < 4; app++) {
            Scene.install(ledger, app, "NUM 1; LOG; ".repeat(app + 1) + Scene.APPROVE);
        }
        Scene.emit(ledger, "NUM 1; LOG; POP");
        ledger.pay(0, 1, 1);
        ledger.call(0, 1, 0, 0, 0);
        dueCounts(check, "at first", ledger, 3, 2, 0, 0, 0);
        check.due("submit with a fault", ledger.submit(), 10);
        dueCounts(check, "after a fault", ledger, 3, 0, 0, 1, 0);
        check.due("submit without", Scene.submitCall(ledger, 1), 0);
        dueCounts(check, "after none", ledger, 3, 0, 1, 1, 2);
        for (int n = 0; n < 5; n++) {
            check.due("submit", Scene.submitCall(ledger, 3), 0);
        }
        check.due("submit of nothing", ledger.submit(), Check.REFUSED);
        dueCounts(check, "more than are kept", ledger, 3, 0, 6, 1, 22);
        for (int app = 0; app < 4; app++) {
            check.due("count(" + (5 + app) + ")", ledger.count(5 + app), 2 * app + 4);
        }
        check.finish();
    }

    private static void dueCounts(Check check, String when, GroupLedger ledger, int... want) {
        for (int what = 0; what < want.length; what++) {
            check.due(when + ", count(" + what + ")", ledger.count(what), want[what]);
        }
    }
}
