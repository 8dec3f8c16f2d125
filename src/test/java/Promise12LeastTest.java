/** Promise 12: least. */
final class Promise12LeastTest {
    public static void main(String[] args) {
        Check check = new Check("promise 12, least");
        empty(check);
        inUse(check);
        forEachApp(check);
        optedWithNothing(check);
        accountOutOfRange(check);
        check.finish();
    }

    private static void empty(Check check) {
        check.sentence("LEAST is 0 if it is OPTED into no app and has the balance 0");
        GroupLedger ledger = Scene.funded(50, 30);
        for (int account = 2; account < 6; account++) {
            check.due("least(" + account + ")", ledger.least(account), 0);
        }
        check.due("all of it paid away", Scene.submitPayment(ledger, 0, 1, 49), 0);
        check.due("least(0)", ledger.least(0), 0);
        ledger.mint(2, 0);
        check.due("0 minted", ledger.least(2), 0);
    }

    private static void inUse(Check check) {
        check.sentence("else 10");
        GroupLedger ledger = Scene.funded(1, 9, 10, 11, 100, Check.MAX);
        for (int account = 0; account < 6; account++) {
            check.due("least(" + account + ")", ledger.least(account), 10);
        }
    }

    private static void forEachApp(Check check) {
        check.sentence("and 5 for each app into which it is OPTED");
        GroupLedger ledger = Scene.funded(100, 100);
        for (int app = 0; app < 4; app++) {
            Scene.install(ledger, app, Scene.APPROVE);
        }
        for (int apps = 1; apps <= 4; apps++) {
            check.due("opting in", Scene.submitCall(ledger, 0, 4 - apps, 1), 0);
            check.due("least with " + apps, ledger.least(0), 10 + 5 * apps);
            check.due("another account's", ledger.least(1), 10);
        }
        for (int apps = 3; apps >= 0; apps--) {
            check.due("closing out", Scene.submitCall(ledger, 0, apps, 2), 0);
            check.due("least with " + apps, ledger.least(0), 10 + 5 * apps);
        }
    }

    /**
     * No account that is OPTED in ever shows the balance 0, for its last payment would have the
     * fault 10; a group that comes to it shows that its LEAST is not 0 then.
     */
    private static void optedWithNothing(Check check) {
        check.sentence("is OPTED into no app and has the balance 0 (both, not one of them)");
        GroupLedger ledger = Scene.funded(17, 100);
        Scene.install(ledger, 0, Scene.APPROVE);
        check.due("opting in", Scene.submitCall(ledger, 0, 0, 1), 0);
        check.due("all of it paid away", Scene.submitPayment(ledger, 0, 1, 15), 10);
        check.due("least(0)", ledger.least(0), 15);
    }

    private static void accountOutOfRange(Check check) {
        check.sentence("ACCOUNTS 0 .. 5");
        GroupLedger ledger = Scene.funded(1, 1, 1, 1, 1, 1);
        for (int n : new int[] {-1, 6, Check.MAX, Check.MIN_INT}) {
            check.due("least(" + n + ")", ledger.least(n), Check.REFUSED);
        }
    }
}
