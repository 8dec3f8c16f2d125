/** The section "Terms": every instruction, its cost, and the faults of a run in their order. */
final class InstructionsTest {
    private static final String LOG_AND_END = "; LOG; " + Scene.APPROVE;
    private static final int CALL_PLACE = 2;
    private static final int PEER_COST = 4;
    private static final int PEER_DONE = 4;

    public static void main(String[] args) {
        Check check = new Check("instructions");
        fresh(check);
        lookingAtTheGroup(check);
        arithmetic(check);
        comparing(check);
        moving(check);
        jumping(check);
        globals(check);
        locals(check);
        balances(check);
        scratch(check);
        emptyStackAtFirst(check);
        lacking(check);
        sorts(check);
        tooMany(check);
        costs(check);
        places(check);
        check.finish();
    }

    /**
     * A group of a payment of 30 by 1 to 2, a call of app 1 that ends with SCRATCH 2 being 7, a
     * call of app 0 by 0 with 11 and 13, and a payment of 40 by 1 to 3. Account 0 is OPTED into
     * app 0 with the local NUMBERS 21 and 22, account 5 into app 1 only.
     */
    private static GroupLedger scene(String program) {
        GroupLedger ledger = Scene.funded(1000, 500, 60, 60, 0, 70);
        Scene.install(ledger, 0, "SENDER; NUM 21; LPUT 0; SENDER; NUM 22; LPUT 1; " + Scene.APPROVE);
        Scene.submitCall(ledger, 0, 0, 1);
        Scene.install(ledger, 1, "NUM 7; STORE 2; " + Scene.APPROVE);
        Scene.submitCall(ledger, 5, 1, 1);
        Scene.install(ledger, 0, program);
        ledger.pay(1, 2, 30);
        ledger.call(0, 1, 0, 0, 0);
        ledger.call(0, 0, 0, 11, 13);
        ledger.pay(1, 3, 40);
        return ledger;
    }

    /** The program runs to its end, and the last NUMBER it logged is the one that is due. */
    private static void logs(Check check, String program, int want) {
        GroupLedger ledger = scene(program + LOG_AND_END);
        check.due(program + ": fault", ledger.submit(), 0);
        check.due(program + ": logged", ledger.logged(0), want);
    }

    private static void faults(Check check, String program, int fault, int at) {
        GroupLedger ledger = scene(program);
        check.due(program + ": fault", ledger.submit(), fault);
        check.due(program + ": place", ledger.report(0), CALL_PLACE);
        check.due(program + ": instruction", ledger.report(1), at);
    }

    private static void fresh(Check check) {
        logs(check, "NUM 0", 0);
        logs(check, "NUM 2147483647", Check.MAX);
        logs(check, "ARG 0", 11);
        logs(check, "ARG 1", 13);
        logs(check, "SIZE", 4);
        logs(check, "INDEX", CALL_PLACE);
        logs(check, "SENDER; ACCOUNT 0; SAME", 1);
        logs(check, "SENDER; ACCOUNT 1; SAME", 0);
        logs(check, "ACCOUNT 5; ACCOUNT 5; SAME", 1);
        logs(check, "ACCOUNT 5; BALANCE", 69);
    }

    private static void lookingAtTheGroup(Check check) {
        logs(check, "NUM 0; AMOUNT", 30);
        logs(check, "NUM 3; AMOUNT", 40);
        logs(check, "NUM 0; RECEIVER; ACCOUNT 2; SAME", 1);
        logs(check, "NUM 3; RECEIVER; ACCOUNT 3; SAME", 1);
        logs(check, "NUM 1; PEER 2", 7);
        logs(check, "NUM 1; PEER 0", 0);
        for (String code : new String[] {"AMOUNT", "RECEIVER"}) {
            faults(check, "NUM 1; " + code, 3, 1);
            faults(check, "NUM 2; " + code, 3, 1);
            faults(check, "NUM 4; " + code, 3, 1);
            faults(check, "NUM 2147483647; " + code, 3, 1);
        }
        faults(check, "NUM 0; PEER 2", 3, 1);
        faults(check, "NUM 2; PEER 2", 3, 1);
        faults(check, "NUM 3; PEER 2", 3, 1);
        faults(check, "NUM 4; PEER 2", 3, 1);
        faults(check, "NUM 2147483647; PEER 3", 3, 1);
        oldTransactionsAreGone(check);
        laterCallIsNoPeer(check);
        peerOfEachPlace(check);
    }

    /** Places that only an earlier, larger group had are not in this one. */
    private static void oldTransactionsAreGone(Check check) {
        GroupLedger ledger = scene("NUM 3; AMOUNT; " + Scene.APPROVE);
        ledger.submit();
        check.due("AMOUNT 3 of a group of 1", Scene.submitCall(ledger, 0), 3);
        Scene.install(ledger, 0, "NUM 0; AMOUNT; " + Scene.APPROVE);
        check.due("a call where a payment was", Scene.submitCall(ledger, 0), 3);
    }

    private static void laterCallIsNoPeer(Check check) {
        GroupLedger ledger = Scene.funded(100);
        Scene.install(ledger, 0, "NUM 1; PEER 0; " + Scene.APPROVE);
        Scene.install(ledger, 1, Scene.APPROVE);
        ledger.call(0, 0, 0, 0, 0);
        ledger.call(0, 1, 0, 0, 0);
        check.due("PEER of a later call", ledger.submit(), 3);
        check.due("its place", ledger.report(0), 0);
    }

    private static void peerOfEachPlace(Check check) {
        GroupLedger ledger = Scene.funded(100);
        Scene.install(ledger, 0, "ARG 0; STORE 0; ARG 1; STORE 3; " + Scene.APPROVE);
        Scene.install(ledger, 1, "NUM 0; PEER 0; LOG; NUM 1; PEER 3; LOG; NUM 2; PEER 0; LOG; " + Scene.APPROVE);
        for (int place = 0; place < 3; place++) {
            ledger.call(0, 0, 0, 30 + place, 40 + place);
        }
        ledger.call(0, 1, 0, 0, 0);
        check.due("submit of three and their PEER", ledger.submit(), 0);
        check.due("SCRATCH 0 of the first", ledger.logged(2), 30);
        check.due("SCRATCH 3 of the second", ledger.logged(1), 41);
        check.due("SCRATCH 0 of the third", ledger.logged(0), 32);
    }

    private static void arithmetic(Check check) {
        logs(check, "NUM 7; NUM 3; ADD", 10);
        logs(check, "NUM 2147483646; NUM 1; ADD", Check.MAX);
        faults(check, "NUM 2147483647; NUM 1; ADD", 3, 2);
        faults(check, "NUM 2147483647; NUM 2147483647; ADD", 3, 2);
        logs(check, "NUM 7; NUM 3; SUB", 4);
        logs(check, "NUM 7; NUM 7; SUB", 0);
        faults(check, "NUM 3; NUM 7; SUB", 3, 2);
        faults(check, "NUM 0; NUM 2147483647; SUB", 3, 2);
        logs(check, "NUM 7; NUM 3; MUL", 21);
        logs(check, "NUM 0; NUM 2147483647; MUL", 0);
        logs(check, "NUM 2147483647; NUM 1; MUL", Check.MAX);
        faults(check, "NUM 1073741824; NUM 2; MUL", 3, 2);
        faults(check, "NUM 65536; NUM 65536; MUL", 3, 2);
        faults(check, "NUM 2147483647; NUM 2147483647; MUL", 3, 2);
        logs(check, "NUM 7; NUM 3; DIV", 2);
        logs(check, "NUM 3; NUM 7; DIV", 0);
        logs(check, "NUM 2147483647; NUM 1; DIV", Check.MAX);
        faults(check, "NUM 7; NUM 0; DIV", 3, 2);
        faults(check, "NUM 0; NUM 0; DIV", 3, 2);
    }

    private static void comparing(Check check) {
        logs(check, "NUM 3; NUM 7; LESS", 1);
        logs(check, "NUM 7; NUM 3; LESS", 0);
        logs(check, "NUM 7; NUM 7; LESS", 0);
        logs(check, "NUM 7; NUM 7; SAME", 1);
        logs(check, "NUM 7; NUM 8; SAME", 0);
        logs(check, "ACCOUNT 2; NUM 2; SAME", 0);
        logs(check, "NUM 2; ACCOUNT 2; SAME", 0);
        logs(check, "ACCOUNT 2; ACCOUNT 3; SAME", 0);
        logs(check, "NUM 0; NOT", 1);
        logs(check, "NUM 1; NOT", 0);
        logs(check, "NUM 2147483647; NOT", 0);
    }

    private static void moving(Check check) {
        logs(check, "NUM 4; DUP; ADD", 8);
        logs(check, "ACCOUNT 4; DUP; SAME", 1);
        logs(check, "NUM 3; NUM 7; SWAP; SUB", 4);
        logs(check, "ACCOUNT 0; NUM 7; SWAP; BALANCE; SWAP; SUB", 990);
        logs(check, "NUM 7; ACCOUNT 0; SWAP", 7);
        logs(check, "NUM 3; NUM 7; POP", 3);
        logs(check, "NUM 3; ACCOUNT 1; POP", 3);
    }

    private static void jumping(Check check) {
        logs(check, "GOTO 2; NOT; NUM 5", 5);
        logs(check, "NUM 9; NUM 1; IF 4; NOT; NUM 1; ADD", 10);
        logs(check, "NUM 9; NUM 0; IF 4; NOT; NUM 1; ADD", 1);
        logs(check, "NUM 9; NUM 2147483647; IF 4; NOT", 9);
        logs(check, "NUM 9; NUM 5; ASSERT", 9);
        faults(check, "NUM 0; ASSERT", 3, 1);
        faults(check, "NUM 0; RETURN", 3, 1);
        logs(check, "NUM 5; LOG; NUM 6; LOG; NUM 2147483647; RETURN; NUM 7", 6);
    }

    private static void globals(Check check) {
        logs(check, "GET 3", 0);
        logs(check, "NUM 8; PUT 3; NUM 9; PUT 0; GET 3", 8);
        logs(check, "NUM 8; PUT 3; NUM 9; PUT 0; GET 0", 9);
        GroupLedger ledger = scene("NUM 8; PUT 3; " + Scene.APPROVE);
        check.due("PUT: fault", ledger.submit(), 0);
        check.due("PUT: global(0, 3)", ledger.global(0, 3), 8);
        check.due("PUT: global(1, 3)", ledger.global(1, 3), 0);
    }

    private static void locals(Check check) {
        logs(check, "SENDER; LGET 0", 21);
        logs(check, "SENDER; LGET 1", 22);
        logs(check, "SENDER; NUM 5; LPUT 1; SENDER; LGET 1", 5);
        logs(check, "SENDER; NUM 5; LPUT 1; SENDER; LGET 0", 21);
        faults(check, "ACCOUNT 1; LGET 0", 3, 1);
        faults(check, "ACCOUNT 5; LGET 0", 3, 1);
        faults(check, "ACCOUNT 1; NUM 5; LPUT 0", 3, 2);
        faults(check, "ACCOUNT 5; NUM 5; LPUT 1", 3, 2);
        anotherAccountsLocals(check);
    }

    private static void anotherAccountsLocals(Check check) {
        GroupLedger ledger = Scene.funded(100, 100);
        Scene.install(ledger, 2, "ACCOUNT 1; NUM 6; LPUT 0; " + Scene.APPROVE);
        check.due("before 1 is OPTED in", Scene.submitCall(ledger, 0, 2, 0), 3);
        check.due("1 opts in", Scene.submitCall(ledger, 1, 2, 1), 0);
        check.due("a sender who is not OPTED in", Scene.submitCall(ledger, 0, 2, 0), 0);
        check.due("local(2, 1, 0)", ledger.local(2, 1, 0), 6);
        check.due("local(2, 0, 0)", ledger.local(2, 0, 0), Check.NONE);
        Scene.install(ledger, 2, "ACCOUNT 1; LGET 0; LOG; ACCOUNT 1; LGET 1; LOG; " + Scene.APPROVE);
        check.due("LGET of another account", Scene.submitCall(ledger, 0, 2, 0), 0);
        check.due("its local NUMBER 0", ledger.logged(1), 6);
        check.due("its local NUMBER 1", ledger.logged(0), 0);
    }

    private static void balances(Check check) {
        logs(check, "SENDER; BALANCE", 997);
        logs(check, "ACCOUNT 1; BALANCE", 469);
        logs(check, "ACCOUNT 2; BALANCE", 90);
        logs(check, "ACCOUNT 3; BALANCE", 60);
        logs(check, "ACCOUNT 4; BALANCE", 0);
    }

    private static void scratch(Check check) {
        logs(check, "LOAD 3", 0);
        logs(check, "LOAD 2", 0);
        logs(check, "NUM 6; STORE 3; NUM 7; STORE 0; LOAD 3", 6);
        logs(check, "NUM 6; STORE 3; NUM 7; STORE 0; LOAD 0", 7);
        for (int k = 0; k < 4; k++) {
            GroupLedger ledger = Scene.funded(100);
            Scene.install(ledger, 0, "LOAD " + k + "; LOG; NUM 9; STORE " + k + "; " + Scene.APPROVE);
            for (int round = 0; round < 3; round++) {
                check.due("a run of round " + round, Scene.submitCall(ledger, 0), 0);
                check.due("SCRATCH " + k + " is 0 at first", ledger.logged(0), 0);
            }
        }
    }

    /** What a run leaves on the stack is not there for the next run. */
    private static void emptyStackAtFirst(Check check) {
        GroupLedger ledger = Scene.funded(100);
        Scene.install(ledger, 0, "NUM 5; NUM 5; NUM 5; NUM 5; " + Scene.APPROVE);
        Scene.install(ledger, 1, "LOG; " + Scene.APPROVE);
        ledger.call(0, 0, 0, 0, 0);
        ledger.call(0, 1, 0, 0, 0);
        check.due("a run behind one that left VALUES", ledger.submit(), 1);
        check.due("report(0)", ledger.report(0), 1);
        for (int round = 0; round < 3; round++) {
            check.due("four VALUES left in round " + round, Scene.submitCall(ledger, 0), 0);
        }
    }

    private static void lacking(Check check) {
        String[] takeOne = {"AMOUNT", "RECEIVER", "NOT", "DUP", "POP", "IF 0", "ASSERT", "PUT 0",
            "LGET 0", "BALANCE", "STORE 0", "PEER 0", "LOG", "RETURN"};
        for (String code : takeOne) {
            faults(check, code, 1, 0);
            faults(check, "NUM 1; POP; " + code, 1, 2);
        }
        for (String code : new String[] {"ADD", "SUB", "MUL", "DIV", "LESS", "SAME", "SWAP", "LPUT 0"}) {
            faults(check, code, 1, 0);
            faults(check, "NUM 0; " + code, 1, 1);
            faults(check, "ACCOUNT 0; " + code, 1, 1);
        }
    }

    private static void sorts(Check check) {
        String[] takeNumber = {"AMOUNT", "RECEIVER", "NOT", "IF 0", "ASSERT", "PUT 0", "STORE 0",
            "PEER 0", "LOG", "RETURN"};
        for (String code : takeNumber) {
            faults(check, "ACCOUNT 0; " + code, 2, 1);
        }
        for (String code : new String[] {"ADD", "SUB", "MUL", "DIV", "LESS"}) {
            faults(check, "NUM 1; ACCOUNT 0; " + code, 2, 2);
            faults(check, "ACCOUNT 1; NUM 0; " + code, 2, 2);
            faults(check, "ACCOUNT 1; ACCOUNT 0; " + code, 2, 2);
        }
        for (String code : new String[] {"LGET 0", "BALANCE"}) {
            faults(check, "NUM 0; " + code, 2, 1);
        }
        faults(check, "NUM 1; ACCOUNT 1; LPUT 0", 2, 2);
        faults(check, "NUM 0; NUM 0; LPUT 0", 2, 2);
        faults(check, "ACCOUNT 1; ACCOUNT 1; LPUT 0", 2, 2);
    }

    private static void tooMany(Check check) {
        String seven = "NUM 1; NUM 1; NUM 1; NUM 1; NUM 1; NUM 1; NUM 1; ";
        String[] putOne = {"NUM 3", "ACCOUNT 3", "ARG 0", "SENDER", "SIZE", "INDEX", "DUP", "GET 0", "LOAD 0"};
        for (String code : putOne) {
            faults(check, seven + "NUM 1; " + code, 1, 8);
            GroupLedger ledger = scene(seven + code + "; POP; RETURN");
            check.due("eight with " + code, ledger.submit(), 0);
        }
        logs(check, seven + "NUM 1; ADD", 2);
        logs(check, seven + "NUM 0; NOT", 1);
        logs(check, seven + "NUM 2; SWAP", 1);
        logs(check, seven + "ACCOUNT 0; LGET 1", 22);
        logs(check, seven + "NUM 0; AMOUNT", 30);
        faults(check, "NUM 1; DUP; DUP; DUP; DUP; DUP; DUP; DUP; DUP", 1, 8);
    }

    private static void costs(Check check) {
        String[] programs = {"NUM 1", "ACCOUNT 1", "ARG 0", "SENDER", "SIZE", "INDEX", "NUM 0; AMOUNT",
            "NUM 0; RECEIVER", "NUM 3; NUM 2; ADD", "NUM 3; NUM 2; SUB", "NUM 3; NUM 2; MUL",
            "NUM 3; NUM 2; DIV", "NUM 3; NUM 2; LESS", "NUM 3; NUM 2; SAME", "NUM 3; NOT", "NUM 3; DUP",
            "NUM 3; NUM 2; SWAP", "NUM 3; POP", "GOTO 1", "NUM 0; IF 3", "NUM 1; ASSERT", "GET 0",
            "NUM 1; PUT 0", "SENDER; LGET 0", "SENDER; NUM 1; LPUT 0", "SENDER; BALANCE", "LOAD 0",
            "NUM 1; STORE 0", "NUM 1; PEER 2", "NUM 1; LOG"};
        for (int code = 0; code < programs.length; code++) {
            GroupLedger ledger = scene(programs[code] + "; " + Scene.APPROVE);
            int before = programs[code].split(";").length - 1;
            check.due(programs[code] + ": fault", ledger.submit(), 0);
            check.due(programs[code] + ": cost", ledger.report(2), PEER_COST + before + costOf(code) + 2);
            check.due(programs[code] + ": done", ledger.report(3), PEER_DONE + before + 1 + 2);
        }
    }

    private static int costOf(int code) {
        if (code == 10 || code == 11) {
            return 2;
        }
        return code >= 21 && code <= 25 ? 3 : 1;
    }

    /** Fault 5, which needs no budget, and fault 4, which comes before all others of an instruction. */
    private static void places(Check check) {
        faults(check, "NUM 1", 5, 1);
        faults(check, "GOTO 31", 5, 31);
        faults(check, "GOTO 1", 5, 1);
        faults(check, "NUM 1; IF 2", 5, 2);
        faults(check, "NUM 0; IF 31", 5, 2);
        GroupLedger whole = Scene.funded(100);
        Scene.install(whole, 0, "GOTO 31; " + "NUM 1; ".repeat(30) + "NUM 1");
        check.due("behind instruction 31", Scene.submitCall(whole, 0), 5);
        check.due("its place", whole.report(1), 32);
        GroupLedger ledger = Scene.funded(100);
        Scene.install(ledger, 0, "NUM 1; POP; ".repeat(10).trim());
        check.due("no budget and no instruction", Scene.submitCall(ledger, 0), 5);
        check.due("its place", ledger.report(1), 20);
        check.due("its cost", ledger.report(2), 20);
        Scene.install(ledger, 0, "NUM 1; POP; ".repeat(10) + "ADD");
        check.due("no budget and a stack that lacks", Scene.submitCall(ledger, 0), 4);
        Scene.install(ledger, 0, "NUM 1; POP; ".repeat(9) + "PUT 0");
        check.due("2 left for a cost of 3", Scene.submitCall(ledger, 0), 4);
        check.due("its cost", ledger.report(2), 18);
        check.due("its count", ledger.report(3), 18);
        Scene.install(ledger, 0, "NUM 1; POP; ".repeat(8) + "NUM 7; PUT 0");
        check.due("3 left for a cost of 3", Scene.submitCall(ledger, 0), 5);
        check.due("its cost", ledger.report(2), 20);
        check.due("its count", ledger.report(3), 18);
    }
}
