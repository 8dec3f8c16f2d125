/** Promise 7: submit, the answers; how a group is carried out is in CarryingOutTest. */
final class Promise07SubmitTest {
    public static void main(String[] args) {
        Check check = new Check("promise 7, submit");
        GroupLedger ledger = Scene.funded(100, 100);
        String before = Scene.look(ledger);
        check.due("submit of nothing", ledger.submit(), Check.REFUSED);
        check.due("what it changed", Scene.look(ledger), before);
        ledger.pay(0, 1, 10);
        check.due("submit without a fault", ledger.submit(), 0);
        check.due("the DRAFT is empty then", ledger.count(1), 0);
        check.due("submit again", ledger.submit(), Check.REFUSED);
        check.due("a refused submit is not counted", ledger.count(2) + ledger.count(3), 1);
        check.due("balance", ledger.balance(0), 89);
        ledger.pay(0, 1, 90);
        check.due("submit with a fault", ledger.submit(), 6);
        check.due("the DRAFT is empty then too", ledger.count(1), 0);
        check.due("the next group begins at 0", ledger.pay(0, 1, 1), 0);
        check.due("submit", ledger.submit(), 0);
        fullGroups(check);
        check.finish();
    }

    private static void fullGroups(Check check) {
        GroupLedger ledger = Scene.funded(1000, 100);
        Scene.install(ledger, 0, "INDEX; LOG; " + Scene.APPROVE);
        for (int round = 0; round < 3; round++) {
            for (int place = 0; place < 4; place++) {
                check.due("place", ledger.call(0, 0, 0, 0, 0), place);
            }
            check.due("submit of four", ledger.submit(), 0);
        }
        check.due("balance after 12 fees", ledger.balance(0), 988);
        check.due("last place logged", ledger.logged(0), 3);
        check.due("logged in all", ledger.count(4), 12);
    }
}
