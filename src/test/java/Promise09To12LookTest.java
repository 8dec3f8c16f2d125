/** Promises 9 to 12: balance, global, local and least. */
final class Promise09To12LookTest {
    private static final int[] NEVER = {-1, Check.MIN_INT, Check.MAX};

    public static void main(String[] args) {
        Check check = new Check("promises 9 to 12, balance, global, local, least");
        wrongNumbers(check);
        balances(check);
        globals(check);
        locals(check);
        leasts(check);
        check.finish();
    }

    private static void wrongNumbers(Check check) {
        GroupLedger ledger = Scene.funded(100);
        Scene.install(ledger, 0, Scene.APPROVE);
        Scene.submitCall(ledger, 0, 0, 1);
        for (int n : NEVER) {
            check.due("balance(" + n + ")", ledger.balance(n), Check.REFUSED);
            check.due("least(" + n + ")", ledger.least(n), Check.REFUSED);
            check.due("global(" + n + ", 0)", ledger.global(n, 0), Check.REFUSED);
            check.due("global(0, " + n + ")", ledger.global(0, n), Check.REFUSED);
            check.due("local(" + n + ", 0, 0)", ledger.local(n, 0, 0), Check.REFUSED);
            check.due("local(0, " + n + ", 0)", ledger.local(0, n, 0), Check.REFUSED);
            check.due("local(0, 0, " + n + ")", ledger.local(0, 0, n), Check.REFUSED);
        }
        check.due("balance(6)", ledger.balance(6), Check.REFUSED);
        check.due("least(6)", ledger.least(6), Check.REFUSED);
        check.due("global(4, 0)", ledger.global(4, 0), Check.REFUSED);
        check.due("global(0, 4)", ledger.global(0, 4), Check.REFUSED);
        check.due("local(4, 0, 0)", ledger.local(4, 0, 0), Check.REFUSED);
        check.due("local(0, 6, 0)", ledger.local(0, 6, 0), Check.REFUSED);
        check.due("local(0, 0, 2)", ledger.local(0, 0, 2), Check.REFUSED);
        check.due("local(0, 1, 2), not OPTED in", ledger.local(0, 1, 2), Check.REFUSED);
    }

    private static void balances(Check check) {
        GroupLedger ledger = Scene.funded(11, 12, 13, 14, 15, 16);
        for (int account = 0; account < 6; account++) {
            check.due("balance(" + account + ")", ledger.balance(account), 11 + account);
        }
    }

    private static void globals(Check check) {
        GroupLedger ledger = Scene.funded(100);
        for (int app = 0; app < 4; app++) {
            for (int k = 0; k < 4; k++) {
                Scene.emit(ledger, "NUM " + (10 * app + k + 1) + "; PUT " + k);
            }
            Scene.install(ledger, app, Scene.APPROVE);
            check.due("call of app " + app, Scene.submitCall(ledger, app), 0);
        }
        for (int app = 0; app < 4; app++) {
            for (int k = 0; k < 4; k++) {
                check.due("global(" + app + ", " + k + ")", ledger.global(app, k), 10 * app + k + 1);
            }
        }
    }

    private static void locals(Check check) {
        GroupLedger ledger = Scene.funded(100, 100, 100, 100, 100, 100);
        String keepArguments = "SENDER; ARG 0; LPUT 0; SENDER; ARG 1; LPUT 1; " + Scene.APPROVE;
        for (int app = 0; app < 4; app++) {
            Scene.install(ledger, app, keepArguments);
            for (int account = 0; account < 6; account++) {
                ledger.call(account, app, 1, 100 * app + account, 200 * app + account);
                check.due("opting in", ledger.submit(), 0);
            }
        }
        for (int app = 0; app < 4; app++) {
            for (int account = 0; account < 6; account++) {
                String of = app + ", " + account;
                check.due("local(" + of + ", 0)", ledger.local(app, account, 0), 100 * app + account);
                check.due("local(" + of + ", 1)", ledger.local(app, account, 1), 200 * app + account);
            }
        }
        check.due("closing out", Scene.submitCall(ledger, 3, 2, 2), 0);
        check.due("local(2, 3, 0)", ledger.local(2, 3, 0), Check.NONE);
        check.due("local(2, 3, 1)", ledger.local(2, 3, 1), Check.NONE);
        check.due("another account's", ledger.local(2, 4, 0), 204);
        check.due("another app's", ledger.local(1, 3, 0), 103);
    }

    private static void leasts(Check check) {
        GroupLedger ledger = new GroupLedger();
        check.due("balance 0", ledger.least(0), 0);
        ledger.mint(0, 1);
        check.due("balance 1", ledger.least(0), 10);
        ledger.mint(0, 99);
        for (int app = 0; app < 4; app++) {
            Scene.install(ledger, app, Scene.APPROVE);
            check.due("opting into app " + app, Scene.submitCall(ledger, 0, app, 1), 0);
            check.due("least with " + (app + 1) + " apps", ledger.least(0), 15 + 5 * app);
        }
        check.due("another account's", ledger.least(1), 0);
        check.due("closing out of app 1", Scene.submitCall(ledger, 0, 1, 2), 0);
        check.due("least with 3 apps", ledger.least(0), 25);
    }
}
