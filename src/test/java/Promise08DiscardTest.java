/** Promise 8: discard. */
final class Promise08DiscardTest {
    public static void main(String[] args) {
        Check check = new Check("promise 8, discard");
        GroupLedger ledger = Scene.funded(100);
        check.due("discard of nothing", ledger.discard(), 0);
        for (int size = 1; size <= 4; size++) {
            for (int n = 0; n < size; n++) {
                ledger.pay(0, 1, 20);
            }
            check.due("discard of " + size, ledger.discard(), size);
            check.due("count(1) then", ledger.count(1), 0);
            check.due("discard again", ledger.discard(), 0);
            check.due("submit then", ledger.submit(), Check.REFUSED);
        }
        check.due("balance", ledger.balance(0), 100);
        check.due("groups", ledger.count(2) + ledger.count(3), 0);
        Scene.emit(ledger, Scene.APPROVE);
        ledger.discard();
        check.due("the program draft stays", ledger.count(0), 2);
        ledger.pay(0, 1, 20);
        ledger.discard();
        ledger.pay(0, 2, 30);
        check.due("submit of what came after", ledger.submit(), 0);
        check.due("balance(1)", ledger.balance(1), 0);
        check.due("balance(2)", ledger.balance(2), 30);
        check.finish();
    }
}
