/** Promise 3: emit. */
final class Promise03EmitTest {
    /** The highest operand of each code, -1 where the document names no range. */
    private static final int[] HIGHEST = {
        Check.MAX, 5, 1, -1, -1, -1, -1, -1, -1, -1, -1, -1, -1, -1, -1, -1, -1, -1,
        31, 31, -1, 3, 3, 1, 1, -1, 3, 3, 3, -1, -1};

    public static void main(String[] args) {
        Check check = new Check("promise 3, emit");
        itsNumber(check);
        codes(check);
        for (int code = 0; code <= 30; code++) {
            if (HIGHEST[code] == -1) {
                anyOperand(check, code);
            } else {
                operandRange(check, code);
            }
        }
        freeOperandHasNoEffect(check);
        full(check);
        wrongNumbersWhenFull(check);
        allOfThirtyTwoRun(check);
        check.finish();
    }

    private static void itsNumber(Check check) {
        check.sentence("Puts an instruction at the end of the program draft: its number.");
        GroupLedger ledger = new GroupLedger();
        for (int n = 0; n < 32; n++) {
            check.due("emit number " + n, ledger.emit(n % 31, 0), n);
            check.due("count(0)", ledger.count(0), n + 1);
        }
        GroupLedger other = Scene.funded(100);
        Scene.install(other, 0, "NUM 4; LOG; NUM 6; LOG; " + Scene.APPROVE);
        check.due("they run in this order", Scene.submitCall(other, 0), 0);
        check.due("the first", other.logged(1), 4);
        check.due("the second", other.logged(0), 6);
    }

    private static void codes(Check check) {
        check.sentence("code 0 .. 30");
        GroupLedger ledger = new GroupLedger();
        for (int code : new int[] {-1, 31, 32, Check.MAX, Check.MIN_INT}) {
            check.due("emit(" + code + ", 0)", ledger.emit(code, 0), Check.REFUSED);
        }
        check.due("count(0)", ledger.count(0), 0);
        check.due("emit(0, 0)", ledger.emit(0, 0), 0);
        check.due("emit(30, 0)", ledger.emit(30, 0), 1);
    }

    private static void operandRange(Check check, int code) {
        String name = Scene.CODES.get(code);
        check.sentence("a in the range named (for 0: 0 .. MAX): " + name + " 0 .. " + HIGHEST[code]);
        GroupLedger ledger = new GroupLedger();
        check.due("-1", ledger.emit(code, -1), Check.REFUSED);
        check.due("MIN", ledger.emit(code, Check.MIN_INT), Check.REFUSED);
        if (HIGHEST[code] < Check.MAX) {
            check.due("one above", ledger.emit(code, HIGHEST[code] + 1), Check.REFUSED);
            check.due("MAX", ledger.emit(code, Check.MAX), Check.REFUSED);
        }
        check.due("count(0) after refusals", ledger.count(0), 0);
        check.due("0", ledger.emit(code, 0), 0);
        check.due("the highest", ledger.emit(code, HIGHEST[code]), 1);
    }

    private static void anyOperand(Check check, int code) {
        check.sentence("any int if none is: " + Scene.CODES.get(code));
        GroupLedger ledger = new GroupLedger();
        int number = 0;
        for (int a : new int[] {Check.MIN_INT, -1, 0, 1, 6, 32, Check.MAX}) {
            check.due("operand " + a, ledger.emit(code, a), number);
            number++;
        }
    }

    private static void freeOperandHasNoEffect(Check check) {
        check.sentence("any int if none is: it changes nothing of what the instruction does");
        for (int a : new int[] {Check.MIN_INT, -1, Check.MAX}) {
            GroupLedger ledger = Scene.funded(100);
            for (String code : "SIZE INDEX ADD DUP LOG SENDER BALANCE SWAP RETURN".split(" ")) {
                ledger.emit(Scene.CODES.indexOf(code), a);
            }
            ledger.deploy(0);
            check.due("submit", Scene.submitCall(ledger, 0), 0);
            check.due("logged", ledger.logged(0), 1);
            check.due("cost", ledger.report(2), 11);
        }
    }

    private static GroupLedger withFullDraft() {
        GroupLedger ledger = Scene.funded(100);
        Scene.emit(ledger, "NUM 1; POP; ".repeat(15) + Scene.APPROVE);
        return ledger;
    }

    private static void full(Check check) {
        check.sentence("32 there: FULL.");
        GroupLedger ledger = withFullDraft();
        check.due("count(0)", ledger.count(0), 32);
        check.due("emit number 32", ledger.emit(0, 0), Check.FULL);
        check.due("again", ledger.emit(30, 0), Check.FULL);
        check.due("count(0) still", ledger.count(0), 32);
        check.due("deploy", ledger.deploy(3), 32);
        check.due("emit after deploy", ledger.emit(0, 1), 0);
        GroupLedger oneLess = new GroupLedger();
        Scene.emit(oneLess, "NUM 1; ".repeat(30) + "NUM 1");
        check.due("31 there", oneLess.emit(0, 1), 31);
    }

    private static void wrongNumbersWhenFull(Check check) {
        check.sentence("32 there, and numbers out of their ranges are REFUSED in every call");
        GroupLedger ledger = withFullDraft();
        check.due("a wrong code", ledger.emit(31, 0), Check.REFUSED);
        check.due("a wrong operand", ledger.emit(1, 6), Check.REFUSED);
        check.due("a NUM below 0", ledger.emit(0, -1), Check.REFUSED);
        check.due("count(0)", ledger.count(0), 32);
    }

    private static void allOfThirtyTwoRun(Check check) {
        check.sentence("32 there: FULL. (and the 32 are as they were put)");
        GroupLedger ledger = withFullDraft();
        ledger.emit(0, 0);
        ledger.deploy(0);
        Scene.install(ledger, 1, Scene.APPROVE);
        ledger.call(0, 0, 0, 0, 0);
        ledger.call(0, 1, 0, 0, 0);
        check.due("32 instructions and 2 on a budget of 40", ledger.submit(), 0);
        check.due("instructions done", ledger.report(3), 34);
    }
}
