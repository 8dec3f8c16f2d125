/** Promise 8: discard. */
final class Promise08DiscardTest {
    public static void main(String[] args) {
        Check check = new Check("promise 8, discard");
        emptyDraft(check);
        for (int size = 1; size <= 4; size++) {
            howMany(check, size);
        }
        emptyThen(check);
        nothingElse(check);
        check.finish();
    }

    private static void emptyDraft(Check check) {
        check.sentence("How many transactions it had. (none)");
        GroupLedger ledger = Scene.funded(100);
        check.due("at first", ledger.discard(), 0);
        ledger.pay(0, 1, 10);
        ledger.submit();
        check.due("after a submit", ledger.discard(), 0);
        ledger.pay(0, 1, 99);
        ledger.submit();
        check.due("after a submit with a fault", ledger.discard(), 0);
    }

    private static void howMany(Check check, int size) {
        check.sentence("How many transactions it had. (" + size + ")");
        GroupLedger ledger = Scene.funded(100);
        for (int n = 0; n < size; n++) {
            if (n % 2 == 0) {
                ledger.pay(0, 1, 20);
            } else {
                ledger.call(0, 0, 0, 0, 0);
            }
        }
        check.due("discard", ledger.discard(), size);
        check.due("count(1) then", ledger.count(1), 0);
        check.due("discard again", ledger.discard(), 0);
    }

    private static void emptyThen(Check check) {
        check.sentence("The DRAFT is empty then.");
        GroupLedger ledger = Scene.funded(100);
        for (int n = 0; n < 4; n++) {
            ledger.pay(0, 1, 20);
        }
        ledger.discard();
        check.due("submit", ledger.submit(), Check.REFUSED);
        for (int place = 0; place < 4; place++) {
            check.due("place", ledger.pay(0, 2, 10), place);
        }
        check.due("full again", ledger.pay(0, 2, 10), Check.FULL);
        check.due("submit of what came after", ledger.submit(), 0);
        check.due("balance(1)", ledger.balance(1), 0);
        check.due("balance(2)", ledger.balance(2), 40);
    }

    private static void nothingElse(Check check) {
        check.sentence("The DRAFT is empty then. (and nothing else is changed)");
        GroupLedger ledger = Scene.funded(100);
        Scene.install(ledger, 0, "NUM 3; LOG; NUM 4; PUT 1; " + Scene.APPROVE);
        Scene.submitCall(ledger, 0, 0, 1);
        Scene.emit(ledger, Scene.APPROVE);
        String before = Scene.look(ledger);
        ledger.pay(0, 1, 20);
        ledger.call(0, 0, 2, 0, 0);
        ledger.discard();
        check.due("what is seen", Scene.look(ledger), before);
        check.due("the program draft", ledger.count(0), 2);
    }
}
