/** Promise 3: emit. */
final class Promise03EmitTest {
    /** The highest operand of each code, -1 where the document names no range. */
    private static final int[] HIGHEST = {
        Check.MAX, 5, 1, -1, -1, -1, -1, -1, -1, -1, -1, -1, -1, -1, -1, -1, -1, -1,
        31, 31, -1, 3, 3, 1, 1, -1, 3, 3, 3, -1, -1};

    public static void main(String[] args) {
        Check check = new Check("promise 3, emit");
        numbersOfInstructions(check);
        operandRanges(check);
        codesOutOfRange(check);
        fullDraft(check);
        check.finish();
    }

    private static void numbersOfInstructions(Check check) {
        GroupLedger ledger = new GroupLedger();
        for (int n = 0; n < 32; n++) {
            check.due("emit number " + n, ledger.emit(n % 31, 0), n);
            check.due("count(0)", ledger.count(0), n + 1);
        }
    }

    private static void operandRanges(Check check) {
        for (int code = 0; code <= 30; code++) {
            GroupLedger ledger = new GroupLedger();
            if (HIGHEST[code] == -1) {
                check.due("emit(" + code + ", MIN)", ledger.emit(code, Check.MIN_INT), 0);
                check.due("emit(" + code + ", -1)", ledger.emit(code, -1), 1);
                check.due("emit(" + code + ", MAX)", ledger.emit(code, Check.MAX), 2);
                continue;
            }
            check.due("emit(" + code + ", -1)", ledger.emit(code, -1), Check.REFUSED);
            check.due("emit(" + code + ", MIN)", ledger.emit(code, Check.MIN_INT), Check.REFUSED);
            if (HIGHEST[code] < Check.MAX) {
                check.due("emit(" + code + ", highest + 1)", ledger.emit(code, HIGHEST[code] + 1), Check.REFUSED);
                check.due("emit(" + code + ", MAX)", ledger.emit(code, Check.MAX), Check.REFUSED);
            }
            check.due("count(0) after refusals", ledger.count(0), 0);
            check.due("emit(" + code + ", 0)", ledger.emit(code, 0), 0);
            check.due("emit(" + code + ", highest)", ledger.emit(code, HIGHEST[code]), 1);
        }
    }

    private static void codesOutOfRange(Check check) {
        GroupLedger ledger = new GroupLedger();
        for (int code : new int[] {-1, 31, 32, Check.MAX, Check.MIN_INT}) {
            check.due("emit(" + code + ", 0)", ledger.emit(code, 0), Check.REFUSED);
        }
        check.due("count(0)", ledger.count(0), 0);
    }

    private static void fullDraft(Check check) {
        GroupLedger ledger = new GroupLedger();
        for (int n = 0; n < 32; n++) {
            ledger.emit(0, n);
        }
        check.due("emit, 32 there", ledger.emit(0, 1), Check.FULL);
        check.due("emit, 32 there and a wrong code", ledger.emit(31, 0), Check.REFUSED);
        check.due("emit, 32 there and a wrong operand", ledger.emit(1, 6), Check.REFUSED);
        check.due("count(0)", ledger.count(0), 32);
        check.due("deploy of 32", ledger.deploy(3), 32);
        check.due("emit after deploy", ledger.emit(0, 1), 0);
    }
}
