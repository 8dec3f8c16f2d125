/** Promise 6: call. */
final class Promise06CallTest {
    public static void main(String[] args) {
        Check check = new Check("promise 6, call");
        itsPlace(check);
        accountOutOfRange(check);
        appOutOfRange(check);
        kindOutOfRange(check);
        argumentsOutOfRange(check);
        argumentsReachTheProgram(check);
        nothingRunsYet(check);
        full(check);
        wrongNumbersWhenFull(check);
        check.finish();
    }

    private static void itsPlace(Check check) {
        check.sentence("Puts a call of app 0 .. 3 by account 0 .. 5 into the DRAFT: its place.");
        GroupLedger ledger = Scene.funded(100, 100);
        check.due("of an app without a program", ledger.call(0, 0, 0, 0, 0), 0);
        check.due("the highest of all", ledger.call(5, 3, 2, Check.MAX, Check.MAX), 1);
        check.due("behind a payment", ledger.pay(0, 1, 1), 2);
        check.due("kind 1", ledger.call(1, 2, 1, 3, 4), 3);
        check.due("count(1)", ledger.count(1), 4);
    }

    private static void refused(Check check, String of, int from, int app, int kind, int x, int y) {
        GroupLedger ledger = Scene.funded(100, 100);
        check.due(of, ledger.call(from, app, kind, x, y), Check.REFUSED);
        check.due(of + ", count(1) then", ledger.count(1), 0);
    }

    private static void accountOutOfRange(Check check) {
        check.sentence("by account 0 .. 5");
        for (int n : new int[] {-1, 6, Check.MAX, Check.MIN_INT}) {
            refused(check, "by " + n, n, 0, 0, 0, 0);
        }
    }

    private static void appOutOfRange(Check check) {
        check.sentence("a call of app 0 .. 3");
        for (int n : new int[] {-1, 4, Check.MAX, Check.MIN_INT}) {
            refused(check, "of app " + n, 0, n, 0, 0, 0);
        }
    }

    private static void kindOutOfRange(Check check) {
        check.sentence("kind 0 plain, 1 opting in, 2 closing out");
        for (int n : new int[] {-1, 3, Check.MAX, Check.MIN_INT}) {
            refused(check, "kind " + n, 0, 0, n, 0, 0);
        }
        GroupLedger ledger = Scene.funded(100);
        Scene.install(ledger, 0, Scene.APPROVE);
        check.due("0", Scene.submitCall(ledger, 0, 0, 0), 0);
        check.due("0 opts nobody in", ledger.local(0, 0, 0), Check.NONE);
        check.due("1", Scene.submitCall(ledger, 0, 0, 1), 0);
        check.due("1 opts in", ledger.local(0, 0, 0), 0);
        check.due("2", Scene.submitCall(ledger, 0, 0, 2), 0);
        check.due("2 closes out", ledger.local(0, 0, 0), Check.NONE);
    }

    private static void argumentsOutOfRange(Check check) {
        check.sentence("with arguments x, y 0 .. MAX");
        for (int n : new int[] {-1, Check.MIN_INT}) {
            refused(check, "x " + n, 0, 0, 0, n, 0);
            refused(check, "y " + n, 0, 0, 0, 0, n);
        }
    }

    private static void argumentsReachTheProgram(Check check) {
        check.sentence("with arguments x, y 0 .. MAX (as the program sees them)");
        GroupLedger ledger = Scene.funded(100, 100);
        Scene.install(ledger, 2, "ARG 0; LOG; ARG 1; LOG; " + Scene.APPROVE);
        ledger.call(0, 2, 0, 17, 18);
        ledger.call(1, 2, 0, 0, Check.MAX);
        check.due("submit", ledger.submit(), 0);
        check.due("first x", ledger.logged(3), 17);
        check.due("first y", ledger.logged(2), 18);
        check.due("second x", ledger.logged(1), 0);
        check.due("second y", ledger.logged(0), Check.MAX);
    }

    private static void nothingRunsYet(Check check) {
        check.sentence("into the DRAFT");
        GroupLedger ledger = Scene.funded(100);
        Scene.install(ledger, 0, "NUM 1; LOG; " + Scene.APPROVE);
        ledger.call(0, 0, 1, 0, 0);
        check.due("nobody is OPTED in", ledger.local(0, 0, 0), Check.NONE);
        check.due("nothing is logged", ledger.count(4), 0);
        check.due("no fee is paid", ledger.balance(0), 100);
    }

    private static GroupLedger withFullDraft() {
        GroupLedger ledger = Scene.funded(200, 100);
        Scene.install(ledger, 0, "ARG 0; LOG; " + Scene.APPROVE);
        for (int n = 0; n < 4; n++) {
            ledger.call(0, 0, 0, 70 + n, 0);
        }
        return ledger;
    }

    private static void full(Check check) {
        check.sentence("4 there: FULL.");
        GroupLedger ledger = withFullDraft();
        check.due("the fifth", ledger.call(1, 0, 0, 80, 0), Check.FULL);
        check.due("again", ledger.call(1, 0, 1, 81, 0), Check.FULL);
        check.due("count(1)", ledger.count(1), 4);
        check.due("submit of the four", ledger.submit(), 0);
        for (int k = 0; k < 4; k++) {
            check.due("logged(" + k + ")", ledger.logged(k), 73 - k);
        }
        check.due("only the four ran", ledger.count(4), 4);
        check.due("call after submit", ledger.call(0, 0, 0, 0, 0), 0);
        GroupLedger payments = Scene.funded(100);
        for (int n = 0; n < 4; n++) {
            payments.pay(0, 1, 10);
        }
        check.due("4 payments there", payments.call(0, 0, 0, 0, 0), Check.FULL);
    }

    private static void wrongNumbersWhenFull(Check check) {
        check.sentence("4 there, and numbers out of their ranges are REFUSED in every call");
        GroupLedger ledger = withFullDraft();
        check.due("a wrong account", ledger.call(6, 0, 0, 0, 0), Check.REFUSED);
        check.due("a wrong app", ledger.call(0, 4, 0, 0, 0), Check.REFUSED);
        check.due("a wrong kind", ledger.call(0, 0, 3, 0, 0), Check.REFUSED);
        check.due("a wrong x", ledger.call(0, 0, 0, -1, 0), Check.REFUSED);
        check.due("a wrong y", ledger.call(0, 0, 0, 0, -1), Check.REFUSED);
        check.due("count(1)", ledger.count(1), 4);
    }
}
