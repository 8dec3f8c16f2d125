/** The section "Terms", for promises 7 and 13: the faults of a run and the order of their tests. */
final class FaultsOfARunTest {
    private static final String SEVEN = "NUM 1; NUM 1; NUM 1; NUM 1; NUM 1; NUM 1; NUM 1; ";

    private final Check check = new Check("faults of a run (Terms; promises 7 and 13)");
    private final RunScene run = new RunScene(check);

    public static void main(String[] args) {
        FaultsOfARunTest test = new FaultsOfARunTest();
        test.lacking();
        test.nineValues();
        test.eightValues();
        test.emptyAtFirst();
        test.otherSort();
        test.budget();
        test.budgetFirstOfAll();
        test.noInstruction();
        test.noInstructionNeedsNoBudget();
        test.oneBeforeTwo();
        test.twoBeforeThree();
        test.check.finish();
    }

    private void lacking() {
        String[] takeOne = {"AMOUNT", "RECEIVER", "NOT", "DUP", "POP", "IF 0", "ASSERT", "PUT 0",
            "LGET 0", "BALANCE", "STORE 0", "PEER 0", "LOG", "RETURN"};
        for (String code : takeOne) {
            check.sentence("1 the stack lacks what an instruction takes: " + code);
            run.faults(code, 1, 0);
            run.faults("NUM 1; POP; " + code, 1, 2);
        }
        for (String code : new String[] {"ADD", "SUB", "MUL", "DIV", "LESS", "SAME", "SWAP", "LPUT 0"}) {
            check.sentence("1 the stack lacks what an instruction takes: " + code);
            run.faults(code, 1, 0);
            run.faults("NUM 1; " + code, 1, 1);
            run.faults("ACCOUNT 0; " + code, 1, 1);
        }
    }

    private void nineValues() {
        String[] putOne = {"NUM 3", "ACCOUNT 3", "ARG 0", "SENDER", "SIZE", "INDEX", "DUP", "GET 0", "LOAD 0"};
        for (String code : putOne) {
            check.sentence("1 .. or would have 9 VALUES: " + code);
            run.faults(SEVEN + "NUM 1; " + code, 1, 8);
            GroupLedger ledger = RunScene.draft(SEVEN + code + "; POP; RETURN");
            check.due("eight are no fault", ledger.submit(), 0);
        }
    }

    private void eightValues() {
        check.sentence("a stack of at most 8 VALUES (what takes before it puts has no fault at 8)");
        run.logs(SEVEN + "NUM 1; ADD", 2);
        run.logs(SEVEN + "NUM 0; NOT", 1);
        run.logs(SEVEN + "NUM 2; SWAP", 1);
        run.logs(SEVEN + "NUM 1; SAME", 1);
        run.logs(SEVEN + "ACCOUNT 0; LGET 1", 22);
        run.logs(SEVEN + "ACCOUNT 0; BALANCE", 997);
        run.logs(SEVEN + "NUM 0; AMOUNT", 30);
        run.logs(SEVEN + "NUM 0; RECEIVER; POP", 1);
        run.logs(SEVEN + "NUM 1; PEER 2", 7);
        run.logs(SEVEN + "NUM 1; GOTO 9", 1);
    }

    /** What a run leaves on the stack is not there for the next run. */
    private void emptyAtFirst() {
        check.sentence("A run has a stack .. empty at first");
        GroupLedger ledger = Scene.funded(100);
        Scene.install(ledger, 0, "NUM 5; NUM 5; NUM 5; NUM 5; NUM 5; " + Scene.APPROVE);
        Scene.install(ledger, 1, "LOG; " + Scene.APPROVE);
        ledger.call(0, 0, 0, 0, 0);
        ledger.call(0, 1, 0, 0, 0);
        check.due("a run behind one that left VALUES", ledger.submit(), 1);
        check.due("report(0)", ledger.report(0), 1);
        check.due("report(1)", ledger.report(1), 0);
        for (int round = 0; round < 3; round++) {
            check.due("five VALUES left in round " + round, Scene.submitCall(ledger, 0), 0);
        }
    }

    private void otherSort() {
        String[] takeNumber = {"AMOUNT", "RECEIVER", "NOT", "IF 0", "ASSERT", "PUT 0", "STORE 0",
            "PEER 0", "LOG", "RETURN"};
        for (String code : takeNumber) {
            check.sentence("2 a VALUE taken is of the other sort: " + code);
            run.faults("ACCOUNT 1; " + code, 2, 1);
        }
        for (String code : new String[] {"ADD", "SUB", "MUL", "DIV", "LESS"}) {
            check.sentence("2 a VALUE taken is of the other sort: " + code);
            run.faults("NUM 1; ACCOUNT 1; " + code, 2, 2);
            run.faults("ACCOUNT 1; NUM 1; " + code, 2, 2);
            run.faults("ACCOUNT 1; ACCOUNT 1; " + code, 2, 2);
        }
        for (String code : new String[] {"LGET 0", "BALANCE"}) {
            check.sentence("2 a VALUE taken is of the other sort: " + code);
            run.faults("NUM 0; " + code, 2, 1);
        }
        check.sentence("2 a VALUE taken is of the other sort: LPUT");
        run.faults("NUM 1; ACCOUNT 0; LPUT 0", 2, 2);
        run.faults("NUM 0; NUM 0; LPUT 0", 2, 2);
        run.faults("ACCOUNT 0; ACCOUNT 0; LPUT 0", 2, 2);
    }

    /** A program of this cost before its last part, run alone on the budget of 20. */
    private void dueAlone(int costBefore, String last, int fault, int cost, int done) {
        GroupLedger ledger = Scene.funded(100);
        for (int n = 0; n < costBefore; n++) {
            Scene.emit(ledger, n % 2 == 0 ? "NUM 1" : "POP");
        }
        Scene.install(ledger, 0, last);
        String of = costBefore + " spent, then " + last;
        check.due(of + ": fault", Scene.submitCall(ledger, 0), fault);
        check.due(of + ": cost", ledger.report(2), cost);
        check.due(of + ": done", ledger.report(3), done);
    }

    private void budget() {
        check.sentence("4 the budget does not suffice for the instruction's cost");
        dueAlone(18, "NUM 1; RETURN", 0, 20, 20);
        dueAlone(19, "RETURN", 0, 20, 20);
        dueAlone(20, "NUM 1", 4, 20, 20);
        dueAlone(18, "GET 0", 4, 18, 18);
        dueAlone(17, "GET 0", 5, 20, 18);
        dueAlone(18, "SENDER; BALANCE", 4, 19, 19);
        dueAlone(16, "NUM 2; NUM 2; MUL", 5, 20, 19);
        dueAlone(17, "NUM 2; NUM 2; MUL", 4, 19, 19);
        dueAlone(0, "GOTO 0", 4, 20, 20);
    }

    private void budgetFirstOfAll() {
        check.sentence("4 .. (tested first of all, before it does anything)");
        dueAlone(20, "POP", 4, 20, 20);
        dueAlone(18, "NUM 1; SENDER; PUT 0", 4, 20, 20);
        dueAlone(18, "PUT 0", 4, 18, 18);
        dueAlone(18, "NUM 0; DIV", 4, 19, 19);
        dueAlone(17, "NUM 1; NUM 0; DIV", 4, 19, 19);
        dueAlone(18, "NUM 0; NUM 0; ASSERT", 4, 20, 20);
        dueAlone(12, SEVEN + "NUM 1; NUM 1", 4, 20, 20);
    }

    private void noInstruction() {
        check.sentence("5 there is no instruction at the place that the run comes to.");
        run.faults("NUM 1", 5, 1);
        run.faults("GOTO 1", 5, 1);
        run.faults("GOTO 31", 5, 31);
        run.faults("NUM 1; IF 2", 5, 2);
        run.faults("NUM 1; IF 31", 5, 31);
        run.faults("NUM 0; IF 31", 5, 2);
        GroupLedger whole = Scene.funded(100);
        Scene.install(whole, 0, "GOTO 31; " + "NUM 1; ".repeat(30) + "NUM 1");
        check.due("behind instruction 31", Scene.submitCall(whole, 0), 5);
        check.due("its place", whole.report(1), 32);
    }

    private void noInstructionNeedsNoBudget() {
        check.sentence("5 there is no instruction (it has no cost for which the budget might not suffice)");
        dueAlone(19, "POP", 5, 20, 20);
        dueAlone(19, "GOTO 31", 5, 20, 20);
    }

    private void oneBeforeTwo() {
        check.sentence("An instruction tests 1, then 2");
        for (String code : new String[] {"ADD", "SUB", "MUL", "DIV", "LESS"}) {
            run.faults("ACCOUNT 0; " + code, 1, 1);
        }
        run.faults("ACCOUNT 0; LPUT 0", 1, 1);
        run.faults("NUM 0; LPUT 0", 1, 1);
    }

    private void twoBeforeThree() {
        check.sentence("An instruction tests .. 2 (the top first), then 3");
        run.faults("ACCOUNT 1; NUM 0; DIV", 2, 2);
        run.faults("NUM 1; NUM 0; LPUT 0", 2, 2);
        run.faults("ACCOUNT 1; ACCOUNT 1; LPUT 0", 2, 2);
        run.faults("NUM 4; ACCOUNT 4; LPUT 0", 2, 2);
        run.faults("ACCOUNT 0; ASSERT", 2, 1);
        run.faults("ACCOUNT 0; RETURN", 2, 1);
        run.faults("ACCOUNT 4; AMOUNT", 2, 1);
        run.faults("ACCOUNT 4; PEER 0", 2, 1);
        run.faults("NUM 4; LGET 0", 2, 1);
    }
}
