/** Promise 9: balance. */
final class Promise09BalanceTest {
    public static void main(String[] args) {
        Check check = new Check("promise 9, balance");
        check.sentence("The account's balance");
        GroupLedger ledger = Scene.funded(0, 12, 13, 14, 15, Check.MAX);
        check.due("balance(0)", ledger.balance(0), 0);
        for (int account = 1; account < 5; account++) {
            check.due("balance(" + account + ")", ledger.balance(account), 11 + account);
        }
        check.due("balance(5)", ledger.balance(5), Check.MAX);
        none(check);
        check.finish();
    }

    private static void none(Check check) {
        check.sentence("REFUSED for none.");
        GroupLedger ledger = Scene.funded(1, 1, 1, 1, 1, 1);
        for (int n : new int[] {-1, 6, 7, Check.MAX, Check.MIN_INT}) {
            check.due("balance(" + n + ")", ledger.balance(n), Check.REFUSED);
        }
    }
}
