/** Promise 5: pay. */
final class Promise05PayTest {
    public static void main(String[] args) {
        Check check = new Check("promise 5, pay");
        GroupLedger ledger = Scene.funded(100, 100);
        check.due("pay(0, 1, 0)", ledger.pay(0, 1, 0), 0);
        check.due("pay(5, 5, MAX), the same account", ledger.pay(5, 5, Check.MAX), 1);
        String before = Scene.look(ledger);
        for (int account : new int[] {-1, 6, Check.MAX, Check.MIN_INT}) {
            check.due("pay from " + account, ledger.pay(account, 0, 1), Check.REFUSED);
            check.due("pay to " + account, ledger.pay(0, account, 1), Check.REFUSED);
        }
        check.due("pay -1", ledger.pay(0, 1, -1), Check.REFUSED);
        check.due("pay MIN", ledger.pay(0, 1, Check.MIN_INT), Check.REFUSED);
        check.due("what refused calls changed", Scene.look(ledger), before);
        check.due("third", ledger.pay(0, 1, 1), 2);
        check.due("fourth", ledger.pay(0, 1, 1), 3);
        check.due("fifth", ledger.pay(0, 1, 1), Check.FULL);
        check.due("a wrong one, 4 there", ledger.pay(0, 6, 1), Check.REFUSED);
        check.due("a wrong amount, 4 there", ledger.pay(0, 1, -1), Check.REFUSED);
        check.due("count(1)", ledger.count(1), 4);
        check.due("nothing moves before submit", ledger.balance(0), 100);
        ledger.discard();
        check.due("pay after discard", ledger.pay(1, 0, 25), 0);
        check.due("submit", ledger.submit(), 0);
        check.due("balance of the receiver", ledger.balance(0), 125);
        check.due("balance of the sender", ledger.balance(1), 74);
        check.finish();
    }
}
