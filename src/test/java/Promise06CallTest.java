/** Promise 6: call. */
final class Promise06CallTest {
    public static void main(String[] args) {
        Check check = new Check("promise 6, call");
        GroupLedger ledger = Scene.funded(100, 100);
        check.due("call of an app without a program", ledger.call(0, 0, 0, 0, 0), 0);
        check.due("highest of all", ledger.call(5, 3, 2, Check.MAX, Check.MAX), 1);
        String before = Scene.look(ledger);
        for (int n : new int[] {-1, 6, Check.MAX, Check.MIN_INT}) {
            check.due("call by " + n, ledger.call(n, 0, 0, 0, 0), Check.REFUSED);
        }
        for (int n : new int[] {-1, 4, Check.MAX, Check.MIN_INT}) {
            check.due("call of app " + n, ledger.call(0, n, 0, 0, 0), Check.REFUSED);
        }
        for (int n : new int[] {-1, 3, Check.MAX, Check.MIN_INT}) {
            check.due("call of kind " + n, ledger.call(0, 0, n, 0, 0), Check.REFUSED);
        }
        for (int n : new int[] {-1, Check.MIN_INT}) {
            check.due("call with x " + n, ledger.call(0, 0, 0, n, 0), Check.REFUSED);
            check.due("call with y " + n, ledger.call(0, 0, 0, 0, n), Check.REFUSED);
        }
        check.due("what refused calls changed", Scene.look(ledger), before);
        check.due("third", ledger.call(0, 0, 1, 0, 0), 2);
        check.due("fourth", ledger.pay(0, 1, 1), 3);
        check.due("fifth", ledger.call(0, 0, 0, 0, 0), Check.FULL);
        check.due("a wrong one, 4 there", ledger.call(0, 4, 0, 0, 0), Check.REFUSED);
        check.due("count(1)", ledger.count(1), 4);
        check.due("nobody is OPTED in before submit", ledger.local(0, 0, 0), Check.NONE);
        argumentsReachTheProgram(check);
        check.finish();
    }

    private static void argumentsReachTheProgram(Check check) {
        GroupLedger ledger = Scene.funded(100, 100);
        Scene.install(ledger, 2, "ARG 0; LOG; ARG 1; LOG; " + Scene.APPROVE);
        ledger.call(0, 2, 0, 17, 18);
        ledger.call(1, 2, 0, 0, Check.MAX);
        check.due("submit", ledger.submit(), 0);
        check.due("first x", ledger.logged(3), 17);
        check.due("first y", ledger.logged(2), 18);
        check.due("second x", ledger.logged(1), 0);
        check.due("second y", ledger.logged(0), Check.MAX);
    }
}
