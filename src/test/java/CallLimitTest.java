/** "An object is used for at most 512 calls": the last of them are answered as the first are. */
final class CallLimitTest {
    private static final int CALLS = 512;

    private final Check check = new Check("512 calls (What it is)");

    public static void main(String[] args) {
        CallLimitTest test = new CallLimitTest();
        test.mints();
        test.logs();
        test.groups();
        test.emits();
        test.check.finish();
    }

    private void mints() {
        check.sentence("An object is used for at most 512 calls (each of them mint)");
        GroupLedger ledger = new GroupLedger();
        for (int n = 1; n <= CALLS; n++) {
            check.due("mint number " + n, ledger.mint(0, 3), 3 * n);
        }
    }

    /** 22 calls set up, then 97 groups of 4 calls log 9 NUMBERS a call, then there are 5 to look. */
    private void logs() {
        check.sentence("An object is used for at most 512 calls (as much logged as can be)");
        GroupLedger ledger = Scene.funded(1000);
        Scene.install(ledger, 0, "ARG 0; LOG; ".repeat(9) + Scene.APPROVE);
        int groups = 97;
        for (int n = 1; n <= groups; n++) {
            for (int place = 0; place < 4; place++) {
                check.due("place", ledger.call(0, 0, 0, 4 * n + place, 0), place);
            }
            check.due("submit number " + n, ledger.submit(), 0);
        }
        check.due("count(4)", ledger.count(4), 36 * groups);
        check.due("logged(0)", ledger.logged(0), 4 * groups + 3);
        check.due("logged(7)", ledger.logged(7), 4 * groups + 3);
        check.due("logged(8)", ledger.logged(8), Check.NONE);
        check.due("balance(0)", ledger.balance(0), 1000 - 4 * groups);
    }

    private void groups() {
        check.sentence("An object is used for at most 512 calls (as many groups as can be)");
        GroupLedger ledger = Scene.funded(1000);
        int groups = 254;
        for (int n = 1; n <= groups; n++) {
            ledger.pay(n % 2 == 0 ? 0 : 1, 0, 0);
            check.due("submit number " + n, ledger.submit(), n % 2 == 0 ? 0 : 6);
        }
        check.due("count(2)", ledger.count(2), groups / 2);
        check.due("count(3)", ledger.count(3), groups / 2);
        check.due("balance(0)", ledger.balance(0), 1000 - groups / 2);
    }

    private void emits() {
        check.sentence("An object is used for at most 512 calls (as much deployed as can be)");
        GroupLedger ledger = new GroupLedger();
        for (int n = 0; n < 15; n++) {
            for (int number = 0; number < 32; number++) {
                check.due("emit", ledger.emit(17, 0), number);
            }
            check.due("deploy number " + n, ledger.deploy(n % 4), 32);
        }
        check.due("count(0)", ledger.count(0), 0);
    }
}
