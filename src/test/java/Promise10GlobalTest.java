/** Promise 10: global. */
final class Promise10GlobalTest {
    public static void main(String[] args) {
        Check check = new Check("promise 10, global");
        GroupLedger ledger = allPut();
        check.sentence("Global NUMBER k 0 .. 3 of app 0 .. 3.");
        for (int app = 0; app < 4; app++) {
            for (int k = 0; k < 4; k++) {
                check.due("global(" + app + ", " + k + ")", ledger.global(app, k), 10 * app + k + 1);
            }
        }
        check.sentence("app 0 .. 3");
        for (int n : new int[] {-1, 4, Check.MAX, Check.MIN_INT}) {
            check.due("global(" + n + ", 0)", ledger.global(n, 0), Check.REFUSED);
            check.due("global(" + n + ", 3)", ledger.global(n, 3), Check.REFUSED);
        }
        check.sentence("NUMBER k 0 .. 3");
        for (int n : new int[] {-1, 4, Check.MAX, Check.MIN_INT}) {
            check.due("global(0, " + n + ")", ledger.global(0, n), Check.REFUSED);
            check.due("global(3, " + n + ")", ledger.global(3, n), Check.REFUSED);
        }
        edges(check);
        check.finish();
    }

    private static GroupLedger allPut() {
        GroupLedger ledger = Scene.funded(100);
        for (int app = 0; app < 4; app++) {
            for (int k = 0; k < 4; k++) {
                Scene.emit(ledger, "NUM " + (10 * app + k + 1) + "; PUT " + k);
            }
            Scene.install(ledger, app, Scene.APPROVE);
            Scene.submitCall(ledger, app);
        }
        return ledger;
    }

    private static void edges(Check check) {
        check.sentence("Global NUMBER (0 and MAX)");
        GroupLedger ledger = Scene.funded(100);
        Scene.install(ledger, 0, "ARG 0; PUT 0; " + Scene.APPROVE);
        ledger.call(0, 0, 0, Check.MAX, 0);
        check.due("submit", ledger.submit(), 0);
        check.due("MAX", ledger.global(0, 0), Check.MAX);
        ledger.call(0, 0, 0, 0, 0);
        check.due("submit", ledger.submit(), 0);
        check.due("0", ledger.global(0, 0), 0);
        check.due("of an app without a program", ledger.global(3, 3), 0);
    }
}
