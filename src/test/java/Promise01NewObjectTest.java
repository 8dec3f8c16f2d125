/** Promise 1: a new object. */
final class Promise01NewObjectTest {
    public static void main(String[] args) {
        Check check = new Check("promise 1, new object");
        GroupLedger ledger = new GroupLedger();
        for (int account = 0; account < 6; account++) {
            check.due("balance " + account, ledger.balance(account), 0);
            check.due("least " + account, ledger.least(account), 0);
        }
        for (int app = 0; app < 4; app++) {
            check.due("program of app " + app, ledger.count(5 + app), 0);
            for (int k = 0; k < 4; k++) {
                check.due("global " + app + " " + k, ledger.global(app, k), 0);
            }
            for (int account = 0; account < 6; account++) {
                check.due("local " + app + " " + account + " 0", ledger.local(app, account, 0), Check.NONE);
                check.due("local " + app + " " + account + " 1", ledger.local(app, account, 1), Check.NONE);
            }
        }
        for (int what = 0; what < 5; what++) {
            check.due("count " + what, ledger.count(what), 0);
        }
        for (int what = 0; what < 4; what++) {
            check.due("report " + what, ledger.report(what), Check.NONE);
        }
        check.due("logged 0", ledger.logged(0), Check.NONE);
        objectsShareNothing(check);
        check.finish();
    }

    private static void objectsShareNothing(Check check) {
        GroupLedger used = Scene.funded(100, 100);
        Scene.install(used, 0, "NUM 3; PUT 0; NUM 3; LOG; " + Scene.APPROVE);
        check.due("submit on the used one", Scene.submitCall(used, 0), 0);
        GroupLedger other = new GroupLedger();
        check.due("a new one beside it", Scene.look(other), Scene.look(new GroupLedger()));
        check.due("its balance", other.balance(0), 0);
        check.due("its global", other.global(0, 0), 0);
        check.due("its program", other.count(5), 0);
    }
}
