/** Promise 5: pay. */
final class Promise05PayTest {
    public static void main(String[] args) {
        Check check = new Check("promise 5, pay");
        itsPlace(check);
        fromOutOfRange(check);
        toOutOfRange(check);
        amountOutOfRange(check);
        perhapsTheSame(check);
        nothingMovesYet(check);
        full(check);
        wrongNumbersWhenFull(check);
        check.finish();
    }

    private static void itsPlace(Check check) {
        check.sentence("Puts a payment of amount 0 .. MAX from account 0 .. 5 to account 0 .. 5"
                + " (perhaps the same) into the DRAFT: its place.");
        GroupLedger ledger = Scene.funded(100, 100);
        check.due("pay(0, 5, 0)", ledger.pay(0, 5, 0), 0);
        check.due("pay(5, 0, MAX)", ledger.pay(5, 0, Check.MAX), 1);
        check.due("behind a call", ledger.call(0, 0, 0, 0, 0), 2);
        check.due("pay(1, 2, 3)", ledger.pay(1, 2, 3), 3);
        check.due("count(1)", ledger.count(1), 4);
        ledger.discard();
        check.due("pay after discard", ledger.pay(1, 0, 25), 0);
        check.due("submit", ledger.submit(), 0);
        check.due("balance of the receiver", ledger.balance(0), 125);
        check.due("balance of the sender", ledger.balance(1), 74);
    }

    private static void refused(Check check, String of, int from, int to, int amount) {
        GroupLedger ledger = Scene.funded(100, 100);
        check.due(of, ledger.pay(from, to, amount), Check.REFUSED);
        check.due(of + ", count(1) then", ledger.count(1), 0);
    }

    private static void fromOutOfRange(Check check) {
        check.sentence("from account 0 .. 5");
        for (int account : new int[] {-1, 6, Check.MAX, Check.MIN_INT}) {
            refused(check, "from " + account, account, 0, 1);
        }
    }

    private static void toOutOfRange(Check check) {
        check.sentence("to account 0 .. 5");
        for (int account : new int[] {-1, 6, Check.MAX, Check.MIN_INT}) {
            refused(check, "to " + account, 0, account, 1);
        }
    }

    private static void amountOutOfRange(Check check) {
        check.sentence("amount 0 .. MAX");
        refused(check, "-1", 0, 1, -1);
        refused(check, "MIN", 0, 1, Check.MIN_INT);
        GroupLedger ledger = new GroupLedger();
        check.due("0", ledger.pay(0, 1, 0), 0);
        check.due("MAX", ledger.pay(0, 1, Check.MAX), 1);
    }

    private static void perhapsTheSame(Check check) {
        check.sentence("(perhaps the same)");
        for (int account = 0; account < 6; account++) {
            GroupLedger ledger = new GroupLedger();
            ledger.mint(account, 50);
            check.due("pay to oneself", ledger.pay(account, account, 49), 0);
            check.due("submit", ledger.submit(), 0);
            check.due("balance", ledger.balance(account), 49);
        }
    }

    private static void nothingMovesYet(Check check) {
        check.sentence("into the DRAFT");
        GroupLedger ledger = Scene.funded(100, 100);
        ledger.pay(0, 1, 30);
        check.due("balance(0)", ledger.balance(0), 100);
        check.due("balance(1)", ledger.balance(1), 100);
        check.due("groups", ledger.count(2) + ledger.count(3), 0);
    }

    private static GroupLedger withFullDraft() {
        GroupLedger ledger = Scene.funded(200, 100);
        for (int n = 0; n < 4; n++) {
            ledger.pay(0, 1, 10 + n);
        }
        return ledger;
    }

    private static void full(Check check) {
        check.sentence("4 there: FULL.");
        GroupLedger ledger = withFullDraft();
        check.due("the fifth", ledger.pay(1, 0, 50), Check.FULL);
        check.due("again", ledger.pay(1, 0, 50), Check.FULL);
        check.due("count(1)", ledger.count(1), 4);
        check.due("submit of the four", ledger.submit(), 0);
        check.due("balance(0)", ledger.balance(0), 200 - 4 - 46);
        check.due("balance(1)", ledger.balance(1), 146);
        check.due("pay after submit", ledger.pay(0, 1, 1), 0);
        GroupLedger calls = Scene.funded(100);
        for (int n = 0; n < 4; n++) {
            calls.call(0, 0, 0, 0, 0);
        }
        check.due("4 calls there", calls.pay(0, 1, 1), Check.FULL);
    }

    private static void wrongNumbersWhenFull(Check check) {
        check.sentence("4 there, and numbers out of their ranges are REFUSED in every call");
        GroupLedger ledger = withFullDraft();
        check.due("a wrong sender", ledger.pay(6, 0, 1), Check.REFUSED);
        check.due("a wrong receiver", ledger.pay(0, 6, 1), Check.REFUSED);
        check.due("a wrong amount", ledger.pay(0, 1, -1), Check.REFUSED);
        check.due("count(1)", ledger.count(1), 4);
    }
}
