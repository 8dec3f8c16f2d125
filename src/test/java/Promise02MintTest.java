/** Promise 2: mint. */
final class Promise02MintTest {
    public static void main(String[] args) {
        Check check = new Check("promise 2, mint");
        itsBalance(check);
        accountOutOfRange(check);
        amountOutOfRange(check);
        upToMax(check);
        aboveMax(check);
        check.finish();
    }

    private static void itsBalance(Check check) {
        check.sentence("The account 0 .. 5 gets the amount 0 .. MAX: its balance.");
        GroupLedger ledger = new GroupLedger();
        check.due("mint(0, 0)", ledger.mint(0, 0), 0);
        check.due("mint(0, 7)", ledger.mint(0, 7), 7);
        check.due("mint(0, 5)", ledger.mint(0, 5), 12);
        check.due("mint(0, 0)", ledger.mint(0, 0), 12);
        check.due("mint(5, MAX)", ledger.mint(5, Check.MAX), Check.MAX);
        check.due("balance(0)", ledger.balance(0), 12);
        check.due("balance(5)", ledger.balance(5), Check.MAX);
        for (int account = 1; account < 5; account++) {
            check.due("balance(" + account + "), never minted to", ledger.balance(account), 0);
        }
        check.due("no group is counted", ledger.count(2) + ledger.count(3), 0);
    }

    private static void accountOutOfRange(Check check) {
        check.sentence("The account 0 .. 5");
        GroupLedger ledger = Scene.funded(3, 0, 0, 0, 0, 4);
        for (int account : new int[] {-1, 6, Check.MIN_INT, Check.MAX}) {
            check.due("mint(" + account + ", 1)", ledger.mint(account, 1), Check.REFUSED);
            check.due("mint(" + account + ", 0)", ledger.mint(account, 0), Check.REFUSED);
        }
        check.due("balance(0)", ledger.balance(0), 3);
        check.due("balance(5)", ledger.balance(5), 4);
    }

    private static void amountOutOfRange(Check check) {
        check.sentence("the amount 0 .. MAX");
        GroupLedger ledger = Scene.funded(5);
        check.due("mint(0, -1)", ledger.mint(0, -1), Check.REFUSED);
        check.due("mint(0, -5)", ledger.mint(0, -5), Check.REFUSED);
        check.due("mint(0, MIN)", ledger.mint(0, Check.MIN_INT), Check.REFUSED);
        check.due("mint(1, -1), balance 0", ledger.mint(1, -1), Check.REFUSED);
        check.due("balance(0)", ledger.balance(0), 5);
        check.due("balance(1)", ledger.balance(1), 0);
    }

    private static void upToMax(Check check) {
        check.sentence("It would be above MAX: REFUSED. (MAX itself is not above it)");
        GroupLedger ledger = Scene.funded(12, Check.MAX - 1, Check.MAX);
        check.due("12 and MAX - 12", ledger.mint(0, Check.MAX - 12), Check.MAX);
        check.due("MAX - 1 and 1", ledger.mint(1, 1), Check.MAX);
        check.due("MAX and 0", ledger.mint(2, 0), Check.MAX);
    }

    private static void aboveMax(Check check) {
        check.sentence("It would be above MAX: REFUSED.");
        GroupLedger ledger = Scene.funded(12, Check.MAX - 1, Check.MAX);
        check.due("12 and MAX - 11", ledger.mint(0, Check.MAX - 11), Check.REFUSED);
        check.due("12 and MAX", ledger.mint(0, Check.MAX), Check.REFUSED);
        check.due("MAX - 1 and 2", ledger.mint(1, 2), Check.REFUSED);
        check.due("MAX and 1", ledger.mint(2, 1), Check.REFUSED);
        check.due("MAX and MAX, which wraps around", ledger.mint(2, Check.MAX), Check.REFUSED);
        check.due("balance(0)", ledger.balance(0), 12);
        check.due("balance(1)", ledger.balance(1), Check.MAX - 1);
        check.due("balance(2)", ledger.balance(2), Check.MAX);
    }
}
