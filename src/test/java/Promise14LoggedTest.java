/** Promise 14: logged. */
final class Promise14LoggedTest {
    private static final String LOG_ARGUMENT = "ARG 0; LOG; ARG 1; RETURN";

    public static void main(String[] args) {
        Check check = new Check("promise 14, logged");
        newestFirst(check);
        withoutFault(check);
        lastEightAreKept(check);
        noneThere(check);
        belowZero(check);
        manyInOneGroup(check);
        aFaultBringsAllEightBack(check);
        edges(check);
        check.finish();
    }

    private static int log(GroupLedger ledger, int number) {
        ledger.call(0, 0, 0, number, 1);
        return ledger.submit();
    }

    private static void newestFirst(Check check) {
        check.sentence("The k-th NUMBER logged back, 0 being the newest");
        GroupLedger ledger = Scene.funded(1000);
        Scene.install(ledger, 0, LOG_ARGUMENT);
        for (int n = 1; n <= 3; n++) {
            check.due("submit", log(ledger, 100 + n), 0);
        }
        check.due("logged(0)", ledger.logged(0), 103);
        check.due("logged(1)", ledger.logged(1), 102);
        check.due("logged(2)", ledger.logged(2), 101);
        check.due("logged(0), asked again", ledger.logged(0), 103);
    }

    private static void withoutFault(Check check) {
        check.sentence("by groups that had no fault");
        GroupLedger ledger = Scene.funded(1000);
        Scene.install(ledger, 0, LOG_ARGUMENT);
        check.due("submit", log(ledger, 5), 0);
        ledger.call(0, 0, 0, 6, 1);
        ledger.call(0, 0, 0, 7, 0);
        check.due("a fault of the second", ledger.submit(), 3);
        ledger.call(0, 0, 0, 8, 1);
        ledger.pay(5, 0, 0);
        check.due("a fault of a payment", ledger.submit(), 6);
        check.due("logged(0)", ledger.logged(0), 5);
        check.due("logged(1)", ledger.logged(1), Check.NONE);
        check.due("submit", log(ledger, 9), 0);
        check.due("logged(0)", ledger.logged(0), 9);
        check.due("logged(1)", ledger.logged(1), 5);
        check.due("logged(2)", ledger.logged(2), Check.NONE);
    }

    private static void lastEightAreKept(Check check) {
        check.sentence("the last 8 are kept");
        GroupLedger ledger = Scene.funded(1000);
        Scene.install(ledger, 0, LOG_ARGUMENT);
        for (int logged = 1; logged <= 26; logged++) {
            check.due("submit", log(ledger, 100 + logged), 0);
            for (int k = 0; k < 10; k++) {
                int want = k < 8 && k < logged ? 100 + logged - k : Check.NONE;
                check.due("logged(" + k + ") of " + logged, ledger.logged(k), want);
            }
        }
        check.due("count(4)", ledger.count(4), 26);
    }

    private static void noneThere(Check check) {
        check.sentence("NONE if there is none.");
        GroupLedger ledger = Scene.funded(1000);
        Scene.install(ledger, 0, LOG_ARGUMENT);
        for (int k : new int[] {0, 1, 7, 8, Check.MAX}) {
            check.due("nothing logged, logged(" + k + ")", ledger.logged(k), Check.NONE);
        }
        check.due("submit", log(ledger, 5), 0);
        check.due("logged(0)", ledger.logged(0), 5);
        for (int k : new int[] {1, 7, 8, 9, 16, Check.MAX}) {
            check.due("one logged, logged(" + k + ")", ledger.logged(k), Check.NONE);
        }
    }

    /** The document names no range for k; below 0 there is no NUMBER, and so NONE. */
    private static void belowZero(Check check) {
        check.sentence("NONE if there is none. (below 0)");
        GroupLedger ledger = Scene.funded(1000);
        Scene.install(ledger, 0, LOG_ARGUMENT);
        for (int round = 0; round < 10; round++) {
            check.due("logged(-1)", ledger.logged(-1), Check.NONE);
            check.due("logged(-8)", ledger.logged(-8), Check.NONE);
            check.due("logged(MIN)", ledger.logged(Check.MIN_INT), Check.NONE);
            check.due("submit", log(ledger, 5), 0);
        }
    }

    private static GroupLedger tenInOneGroup() {
        GroupLedger ledger = Scene.funded(1000);
        Scene.install(ledger, 0, "ARG 0; LOG; ARG 0; LOG; ARG 0; LOG; ARG 0; LOG; ARG 0; LOG; ARG 1; RETURN");
        ledger.call(0, 0, 0, 1, 1);
        ledger.call(0, 0, 0, 2, 1);
        ledger.submit();
        return ledger;
    }

    private static void dueFiveAndThree(Check check, GroupLedger ledger) {
        for (int k = 0; k < 8; k++) {
            check.due("logged(" + k + ")", ledger.logged(k), k < 5 ? 2 : 1);
        }
        check.due("logged(8)", ledger.logged(8), Check.NONE);
        check.due("count(4)", ledger.count(4), 10);
    }

    private static void manyInOneGroup(Check check) {
        check.sentence("the last 8 are kept (of ten in one group)");
        dueFiveAndThree(check, tenInOneGroup());
    }

    private static void aFaultBringsAllEightBack(Check check) {
        check.sentence("by groups that had no fault (ten logged by one with a fault: the 8 of before are there)");
        GroupLedger ledger = tenInOneGroup();
        ledger.call(0, 0, 0, 3, 1);
        ledger.call(0, 0, 0, 4, 0);
        check.due("a fault", ledger.submit(), 3);
        dueFiveAndThree(check, ledger);
    }

    private static void edges(Check check) {
        check.sentence("The k-th NUMBER logged (0 and MAX)");
        GroupLedger ledger = Scene.funded(1000);
        Scene.install(ledger, 0, "NUM 0; LOG; NUM 2147483647; LOG; " + Scene.APPROVE);
        check.due("submit", Scene.submitCall(ledger, 0), 0);
        check.due("MAX", ledger.logged(0), Check.MAX);
        check.due("0", ledger.logged(1), 0);
    }
}
