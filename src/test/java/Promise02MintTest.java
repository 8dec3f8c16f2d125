/** Promise 2: mint. */
final class Promise02MintTest {
    public static void main(String[] args) {
        Check check = new Check("promise 2, mint");
        GroupLedger ledger = new GroupLedger();
        check.due("mint(0, 0)", ledger.mint(0, 0), 0);
        check.due("mint(0, 7)", ledger.mint(0, 7), 7);
        check.due("mint(0, 5)", ledger.mint(0, 5), 12);
        check.due("mint(5, MAX)", ledger.mint(5, Check.MAX), Check.MAX);
        check.due("mint(5, 0) at MAX", ledger.mint(5, 0), Check.MAX);
        check.due("mint(4, MAX - 1)", ledger.mint(4, Check.MAX - 1), Check.MAX - 1);
        check.due("mint(4, 1) up to MAX", ledger.mint(4, 1), Check.MAX);
        String before = Scene.look(ledger);
        check.due("mint(5, 1) above MAX", ledger.mint(5, 1), Check.REFUSED);
        check.due("mint(5, MAX) above MAX", ledger.mint(5, Check.MAX), Check.REFUSED);
        check.due("mint(0, MAX) above MAX", ledger.mint(0, Check.MAX), Check.REFUSED);
        check.due("mint(0, MAX - 11) above MAX", ledger.mint(0, Check.MAX - 11), Check.REFUSED);
        check.due("mint(-1, 1)", ledger.mint(-1, 1), Check.REFUSED);
        check.due("mint(6, 1)", ledger.mint(6, 1), Check.REFUSED);
        check.due("mint(MIN, 1)", ledger.mint(Check.MIN_INT, 1), Check.REFUSED);
        check.due("mint(MAX, 1)", ledger.mint(Check.MAX, 1), Check.REFUSED);
        check.due("mint(0, -1)", ledger.mint(0, -1), Check.REFUSED);
        check.due("mint(0, MIN)", ledger.mint(0, Check.MIN_INT), Check.REFUSED);
        check.due("what refused calls changed", Scene.look(ledger), before);
        check.due("mint(0, MAX - 12)", ledger.mint(0, Check.MAX - 12), Check.MAX);
        check.due("balance(1), never minted to", ledger.balance(1), 0);
        check.finish();
    }
}
