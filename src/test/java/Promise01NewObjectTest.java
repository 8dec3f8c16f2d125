/** Promise 1: a new object. */
final class Promise01NewObjectTest {
    public static void main(String[] args) {
        Check check = new Check("promise 1, new object");
        balances(check);
        numbers(check);
        noPrograms(check);
        nobodyOptedIn(check);
        nothingElse(check);
        objectsShareNothing(check);
        check.finish();
    }

    private static void balances(Check check) {
        check.sentence("All balances .. 0");
        GroupLedger ledger = new GroupLedger();
        for (int account = 0; account < 6; account++) {
            check.due("balance " + account, ledger.balance(account), 0);
            check.due("least " + account, ledger.least(account), 0);
            check.due("a fee that it cannot pay", Scene.submitPayment(ledger, account, 0, 0), 6);
        }
    }

    private static void numbers(Check check) {
        check.sentence("All .. NUMBERS 0");
        GroupLedger ledger = new GroupLedger();
        for (int app = 0; app < 4; app++) {
            for (int k = 0; k < 4; k++) {
                check.due("global " + app + " " + k, ledger.global(app, k), 0);
            }
        }
    }

    private static void noPrograms(Check check) {
        check.sentence("no programs");
        GroupLedger ledger = Scene.funded(100);
        for (int app = 0; app < 4; app++) {
            check.due("instructions of app " + app, ledger.count(5 + app), 0);
            check.due("call of app " + app, Scene.submitCall(ledger, app), 9);
        }
    }

    private static void nobodyOptedIn(Check check) {
        check.sentence("nobody OPTED in");
        GroupLedger ledger = Scene.funded(100, 100, 100, 100, 100, 100);
        for (int app = 0; app < 4; app++) {
            for (int account = 0; account < 6; account++) {
                String of = app + " " + account;
                check.due("local " + of + " 0", ledger.local(app, account, 0), Check.NONE);
                check.due("local " + of + " 1", ledger.local(app, account, 1), Check.NONE);
                check.due("closing out " + of, Scene.submitCall(ledger, account, app, 2), 8);
            }
        }
    }

    private static void nothingElse(Check check) {
        check.sentence("A new object: nothing in the drafts, submitted or logged");
        GroupLedger ledger = new GroupLedger();
        for (int what = 0; what < 5; what++) {
            check.due("count " + what, ledger.count(what), 0);
        }
        for (int what = 0; what < 4; what++) {
            check.due("report " + what, ledger.report(what), Check.NONE);
        }
        check.due("logged 0", ledger.logged(0), Check.NONE);
        check.due("emit", ledger.emit(0, 1), 0);
        check.due("pay", ledger.pay(0, 0, 0), 0);
    }

    private static void objectsShareNothing(Check check) {
        check.sentence("A new object: beside one that is used");
        GroupLedger used = Scene.funded(100, 100);
        Scene.install(used, 0, "NUM 3; PUT 0; NUM 3; LOG; " + Scene.APPROVE);
        check.due("submit on the used one", Scene.submitCall(used, 0, 0, 1), 0);
        Scene.emit(used, "NUM 1");
        used.pay(0, 1, 1);
        GroupLedger other = new GroupLedger();
        check.due("its balance", other.balance(0), 0);
        check.due("its global", other.global(0, 0), 0);
        check.due("its local", other.local(0, 0, 0), Check.NONE);
        check.due("its program", other.count(5), 0);
        check.due("its program draft", other.count(0), 0);
        check.due("its DRAFT", other.count(1), 0);
        check.due("its groups", other.count(2), 0);
        check.due("its logs", other.count(4), 0);
        check.due("the used one's balance", used.balance(0), 99);
        check.due("the used one's global", used.global(0, 0), 3);
    }
}
