/** Promise 14: logged. */
final class Promise14LoggedTest {
    public static void main(String[] args) {
        Check check = new Check("promise 14, logged");
        GroupLedger ledger = Scene.funded(1000);
        Scene.install(ledger, 0, "ARG 0; LOG; ARG 1; RETURN");
        check.due("nothing logged", ledger.logged(0), Check.NONE);
        int logged = 0;
        for (int n = 1; n <= 20; n++) {
            ledger.call(0, 0, 0, 100 + n, 1);
            check.due("submit", ledger.submit(), 0);
            logged++;
            ledger.call(0, 0, 0, 900 + n, 1);
            ledger.call(0, 0, 0, 900 + n, 0);
            check.due("submit with a fault", ledger.submit(), 3);
            dueLogs(check, ledger, logged);
        }
        check.due("count(4)", ledger.count(4), 20);
        check.due("logged(-1), which no NUMBER is", ledger.logged(-1), Check.NONE);
        check.due("logged(MIN)", ledger.logged(Check.MIN_INT), Check.NONE);
        check.due("logged(MAX)", ledger.logged(Check.MAX), Check.NONE);
        manyInOneGroup(check);
        check.finish();
    }

    private static void dueLogs(Check check, GroupLedger ledger, int logged) {
        for (int k = 0; k < 10; k++) {
            boolean kept = k < 8 && k < logged;
            check.due("logged(" + k + ") of " + logged, ledger.logged(k), kept ? 100 + logged - k : Check.NONE);
        }
    }

    /** A group with a fault logs more than are kept: all eight of before must come back. */
    private static void manyInOneGroup(Check check) {
        GroupLedger ledger = Scene.funded(1000);
        Scene.install(ledger, 0, "ARG 0; LOG; ARG 0; LOG; ARG 0; LOG; ARG 0; LOG; ARG 0; LOG; ARG 1; RETURN");
        ledger.call(0, 0, 0, 1, 1);
        ledger.call(0, 0, 0, 2, 1);
        check.due("ten in one group", ledger.submit(), 0);
        ledger.call(0, 0, 0, 3, 1);
        ledger.call(0, 0, 0, 4, 0);
        check.due("ten in one with a fault", ledger.submit(), 3);
        for (int k = 0; k < 8; k++) {
            check.due("logged(" + k + ")", ledger.logged(k), k < 5 ? 2 : 1);
        }
        check.due("logged(8)", ledger.logged(8), Check.NONE);
        check.due("count(4)", ledger.count(4), 10);
        Scene.install(ledger, 0, "NUM 0; LOG; NUM 2147483647; LOG; " + Scene.APPROVE);
        check.due("a 0 logged", Scene.submitCall(ledger, 0), 0);
        check.due("logged(0)", ledger.logged(0), Check.MAX);
        check.due("logged(1)", ledger.logged(1), 0);
    }
}
