/** Promise 11: local. */
final class Promise11LocalTest {
    private static final String KEEP_ARGUMENTS =
            "SENDER; ARG 0; LPUT 0; SENDER; ARG 1; LPUT 1; " + Scene.APPROVE;

    public static void main(String[] args) {
        Check check = new Check("promise 11, local");
        all(check);
        notOptedIn(check);
        appOutOfRange(check);
        accountOutOfRange(check);
        numberOutOfRange(check);
        edges(check);
        check.finish();
    }

    private static void optIn(GroupLedger ledger, int app, int account, int x, int y) {
        ledger.call(account, app, 1, x, y);
        if (ledger.submit() != 0) {
            throw new IllegalArgumentException("not OPTED in: " + account);
        }
    }

    private static GroupLedger allOpted() {
        GroupLedger ledger = Scene.funded(100, 100, 100, 100, 100, 100);
        for (int app = 0; app < 4; app++) {
            Scene.install(ledger, app, KEEP_ARGUMENTS);
            for (int account = 0; account < 6; account++) {
                optIn(ledger, app, account, 100 * app + account, 500 + 100 * app + account);
            }
        }
        return ledger;
    }

    private static void all(Check check) {
        check.sentence("Local NUMBER k 0 .. 1 of the account in the app");
        GroupLedger ledger = allOpted();
        for (int app = 0; app < 4; app++) {
            for (int account = 0; account < 6; account++) {
                String of = app + ", " + account;
                int first = 100 * app + account;
                check.due("local(" + of + ", 0)", ledger.local(app, account, 0), first);
                check.due("local(" + of + ", 1)", ledger.local(app, account, 1), 500 + first);
            }
        }
    }

    private static void notOptedIn(Check check) {
        check.sentence("NONE if it is not OPTED in.");
        GroupLedger ledger = allOpted();
        check.due("closing out", Scene.submitCall(ledger, 3, 2, 2), 0);
        check.due("local(2, 3, 0)", ledger.local(2, 3, 0), Check.NONE);
        check.due("local(2, 3, 1)", ledger.local(2, 3, 1), Check.NONE);
        check.due("another account's", ledger.local(2, 4, 0), 204);
        check.due("another app's", ledger.local(1, 3, 0), 103);
        GroupLedger other = Scene.funded(100);
        check.due("an app without a program", other.local(3, 0, 0), Check.NONE);
    }

    private static void appOutOfRange(Check check) {
        check.sentence("app 0 .. 3");
        GroupLedger ledger = allOpted();
        for (int n : new int[] {-1, 4, Check.MAX, Check.MIN_INT}) {
            check.due("local(" + n + ", 0, 0)", ledger.local(n, 0, 0), Check.REFUSED);
        }
    }

    private static void accountOutOfRange(Check check) {
        check.sentence("ACCOUNTS 0 .. 5");
        GroupLedger ledger = allOpted();
        for (int n : new int[] {-1, 6, Check.MAX, Check.MIN_INT}) {
            check.due("local(0, " + n + ", 0)", ledger.local(0, n, 0), Check.REFUSED);
            check.due("local(3, " + n + ", 1)", ledger.local(3, n, 1), Check.REFUSED);
        }
    }

    private static void numberOutOfRange(Check check) {
        check.sentence("Local NUMBER k 0 .. 1");
        GroupLedger ledger = allOpted();
        GroupLedger nobody = new GroupLedger();
        for (int n : new int[] {-1, 2, Check.MAX, Check.MIN_INT}) {
            check.due("local(0, 1, " + n + ")", ledger.local(0, 1, n), Check.REFUSED);
            check.due("local(0, 1, " + n + "), not OPTED in", nobody.local(0, 1, n), Check.REFUSED);
        }
    }

    private static void edges(Check check) {
        check.sentence("Local NUMBER (0 and MAX)");
        GroupLedger ledger = Scene.funded(100);
        Scene.install(ledger, 1, KEEP_ARGUMENTS);
        optIn(ledger, 1, 0, Check.MAX, 0);
        check.due("MAX", ledger.local(1, 0, 0), Check.MAX);
        check.due("0, which is not NONE", ledger.local(1, 0, 1), 0);
    }
}
