/** Promise 13: report. */
final class Promise13ReportTest {
    public static void main(String[] args) {
        Check check = new Check("promise 13, report");
        before(check);
        anotherWhat(check);
        lastSubmitNotRefused(check);
        placeOfTheFault(check);
        noFault(check);
        instructionOfTheFault(check);
        placeComeTo(check);
        faultOfNoRun(check);
        whatAllRunsCost(check);
        costWithoutFaultFour(check);
        instructionsDone(check);
        check.finish();
    }

    private static void dueReport(Check check, String of, GroupLedger ledger, int... want) {
        for (int what = 0; what < 4; what++) {
            check.due(of + ", report(" + what + ")", ledger.report(what), want[what]);
        }
    }

    private static void before(Check check) {
        check.sentence("NONE before.");
        GroupLedger ledger = Scene.funded(100);
        dueReport(check, "at first", ledger, Check.NONE, Check.NONE, Check.NONE, Check.NONE);
        ledger.submit();
        dueReport(check, "after a refused submit", ledger, Check.NONE, Check.NONE, Check.NONE, Check.NONE);
        ledger.pay(0, 1, 10);
        dueReport(check, "with a DRAFT", ledger, Check.NONE, Check.NONE, Check.NONE, Check.NONE);
        ledger.discard();
        dueReport(check, "after a discard", ledger, Check.NONE, Check.NONE, Check.NONE, Check.NONE);
    }

    private static void anotherWhat(Check check) {
        check.sentence("REFUSED for another what.");
        GroupLedger ledger = Scene.funded(100);
        for (int what : new int[] {-1, 4, 5, Check.MAX, Check.MIN_INT}) {
            check.due("report(" + what + ") before", ledger.report(what), Check.REFUSED);
        }
        Scene.submitPayment(ledger, 0, 1, 10);
        for (int what : new int[] {-1, 4, 5, Check.MAX, Check.MIN_INT}) {
            check.due("report(" + what + ") after", ledger.report(what), Check.REFUSED);
        }
    }

    private static void lastSubmitNotRefused(Check check) {
        check.sentence("Of the last submit that was not REFUSED");
        GroupLedger ledger = Scene.funded(100, 100);
        Scene.install(ledger, 0, "NUM 6; NUM 7; MUL; POP; NUM 0; RETURN");
        check.due("a fault", Scene.submitCall(ledger, 0), 3);
        dueReport(check, "a fault", ledger, 0, 5, 7, 6);
        check.due("a refused submit", ledger.submit(), Check.REFUSED);
        dueReport(check, "after a refused submit", ledger, 0, 5, 7, 6);
        ledger.pay(0, 1, 10);
        ledger.pay(0, 6, 10);
        dueReport(check, "with a new DRAFT", ledger, 0, 5, 7, 6);
        ledger.discard();
        Scene.install(ledger, 0, Scene.APPROVE);
        dueReport(check, "after a discard and a deploy", ledger, 0, 5, 7, 6);
        check.due("a payment", Scene.submitPayment(ledger, 0, 1, 10), 0);
        dueReport(check, "a payment", ledger, Check.NONE, Check.NONE, 0, 0);
        check.due("a call", Scene.submitCall(ledger, 0), 0);
        dueReport(check, "a call", ledger, Check.NONE, Check.NONE, 2, 2);
    }

    private static void placeOfTheFault(Check check) {
        check.sentence("0: the place of the transaction with the fault");
        for (int place = 0; place < 4; place++) {
            GroupLedger ledger = Scene.funded(100, 100);
            for (int n = 0; n < 4; n++) {
                ledger.pay(n == place ? 5 : 0, 1, 1);
            }
            check.due("submit", ledger.submit(), 6);
            check.due("report(0)", ledger.report(0), place);
        }
        GroupLedger two = Scene.funded(100, 100);
        two.pay(0, 1, 1);
        two.call(0, 0, 0, 0, 0);
        two.pay(5, 0, 0);
        check.due("the first of two faults", two.submit(), 9);
        check.due("report(0)", two.report(0), 1);
    }

    private static void noFault(Check check) {
        check.sentence("0: .. NONE if there was none");
        GroupLedger ledger = Scene.funded(100, 100);
        check.due("a fault first", Scene.submitPayment(ledger, 0, 1, 100), 6);
        check.due("a good one", Scene.submitPayment(ledger, 0, 1, 1), 0);
        check.due("report(0)", ledger.report(0), Check.NONE);
        check.due("report(1)", ledger.report(1), Check.NONE);
    }

    /** The fault of a run comes at instruction want; a payment stands before the call. */
    private static void dueInstruction(Check check, String program, int fault, int want) {
        GroupLedger ledger = Scene.funded(100, 100);
        Scene.install(ledger, 0, program);
        ledger.pay(0, 1, 10);
        ledger.call(0, 0, 0, 0, 0);
        check.due(program + ": submit", ledger.submit(), fault);
        check.due(program + ": report(0)", ledger.report(0), 1);
        check.due(program + ": report(1)", ledger.report(1), want);
    }

    private static void instructionOfTheFault(Check check) {
        check.sentence("1: the instruction at which the fault of a run came");
        dueInstruction(check, "ADD", 1, 0);
        dueInstruction(check, "NUM 1; SENDER; NOT", 2, 2);
        dueInstruction(check, "NUM 1; NOT; ASSERT; " + Scene.APPROVE, 3, 2);
        dueInstruction(check, "NUM 0; RETURN", 3, 1);
        dueInstruction(check, "NUM 1; IF 4; NUM 9; LOG; POP", 1, 4);
        dueInstruction(check, "GET 0; POP; GOTO 0", 4, 0);
        dueInstruction(check, "NUM 1; POP; ".repeat(10) + Scene.APPROVE, 4, 20);
    }

    private static void placeComeTo(Check check) {
        check.sentence("1: .. (for fault 5 the place come to)");
        dueInstruction(check, "NUM 1", 5, 1);
        dueInstruction(check, "NUM 3; GOTO 9", 5, 9);
        dueInstruction(check, "NUM 3; IF 31", 5, 31);
        dueInstruction(check, "GOTO 31; " + "NUM 1; ".repeat(30) + "NUM 1", 5, 32);
    }

    private static void faultOfNoRun(Check check) {
        check.sentence("1: .. NONE if it was no run's");
        GroupLedger ledger = Scene.funded(100, Check.MAX);
        Scene.install(ledger, 0, "NUM 0; RETURN");
        check.due("a fault of a run first", Scene.submitCall(ledger, 0), 3);
        Scene.install(ledger, 0, Scene.APPROVE);
        ledger.call(0, 0, 0, 0, 0);
        ledger.pay(0, 1, 99);
        check.due("fault 6", ledger.submit(), 6);
        dueReport(check, "fault 6", ledger, 1, Check.NONE, 2, 2);
        ledger.call(0, 0, 0, 0, 0);
        ledger.pay(0, 1, 1);
        check.due("fault 7", ledger.submit(), 7);
        dueReport(check, "fault 7", ledger, 1, Check.NONE, 2, 2);
        ledger.call(0, 0, 0, 0, 0);
        ledger.call(0, 0, 2, 0, 0);
        check.due("fault 8", ledger.submit(), 8);
        dueReport(check, "fault 8", ledger, 1, Check.NONE, 2, 2);
        check.due("fault 9", Scene.submitCall(ledger, 1), 9);
        dueReport(check, "fault 9", ledger, 0, Check.NONE, 0, 0);
        GroupLedger poor = Scene.funded(10);
        Scene.install(poor, 0, Scene.APPROVE);
        check.due("fault 10", Scene.submitCall(poor, 0), 10);
        dueReport(check, "fault 10", poor, 0, Check.NONE, 2, 2);
    }

    private static void whatAllRunsCost(Check check) {
        check.sentence("2: what all runs cost");
        GroupLedger ledger = Scene.funded(100, 100);
        Scene.install(ledger, 0, "GET 0; RETURN");
        Scene.install(ledger, 1, "NUM 3; NUM 2; DIV; RETURN");
        ledger.call(0, 1, 0, 0, 0);
        ledger.pay(1, 0, 5);
        ledger.call(1, 0, 0, 0, 0);
        ledger.call(0, 1, 0, 0, 0);
        check.due("submit", ledger.submit(), 3);
        dueReport(check, "two runs, the second with a fault", ledger, 2, 1, 5 + 4, 4 + 2);
        ledger.call(0, 1, 0, 0, 0);
        ledger.call(0, 1, 0, 0, 0);
        check.due("submit of two", ledger.submit(), 0);
        dueReport(check, "two runs", ledger, Check.NONE, Check.NONE, 10, 8);
        check.due("no run", Scene.submitPayment(ledger, 0, 1, 10), 0);
        dueReport(check, "no run", ledger, Check.NONE, Check.NONE, 0, 0);
        Scene.install(ledger, 0, "PUT 0");
        check.due("an instruction with fault 1", Scene.submitCall(ledger, 0), 1);
        check.due("its cost", ledger.report(2), 3);
        Scene.install(ledger, 0, "SENDER; PUT 0");
        check.due("an instruction with fault 2", Scene.submitCall(ledger, 0), 2);
        check.due("its cost", ledger.report(2), 4);
        Scene.install(ledger, 0, "NUM 1; NUM 0; DIV");
        check.due("an instruction with fault 3", Scene.submitCall(ledger, 0), 3);
        check.due("its cost", ledger.report(2), 4);
    }

    private static void costWithoutFaultFour(Check check) {
        check.sentence("2: .. that of an instruction not done for fault 4 left out");
        GroupLedger ledger = Scene.funded(100);
        Scene.install(ledger, 0, "NUM 1; POP; ".repeat(9) + "GET 0");
        check.due("2 left for a cost of 3", Scene.submitCall(ledger, 0), 4);
        dueReport(check, "2 left for a cost of 3", ledger, 0, 18, 18, 18);
        Scene.install(ledger, 0, "NUM 1; NUM 1; GET 0; GET 0; GET 0; GET 0; GET 0; MUL; MUL");
        check.due("1 left for a cost of 2", Scene.submitCall(ledger, 0), 4);
        dueReport(check, "1 left for a cost of 2", ledger, 0, 8, 19, 8);
    }

    private static void dueDone(Check check, String program, int fault, int want) {
        GroupLedger ledger = Scene.funded(100);
        Scene.install(ledger, 0, program);
        check.due(program + ": submit", Scene.submitCall(ledger, 0), fault);
        check.due(program + ": report(3)", ledger.report(3), want);
    }

    private static void instructionsDone(Check check) {
        check.sentence("3: instructions done, one with a fault among them but not for faults 4 and 5.");
        dueDone(check, Scene.APPROVE, 0, 2);
        dueDone(check, "POP", 1, 1);
        dueDone(check, "SENDER; NOT", 2, 2);
        dueDone(check, "NUM 0; ASSERT", 3, 2);
        dueDone(check, "GOTO 0", 4, 20);
        dueDone(check, "GET 0; POP; GOTO 0", 4, 12);
        dueDone(check, "NUM 3; GOTO 9", 5, 2);
    }
}
