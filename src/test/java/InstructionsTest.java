/** The section "Terms", for promises 3 and 7: every instruction, its edges and its cost. */
final class InstructionsTest {
    private final Check check = new Check("instructions (Terms; promises 3 and 7)");
    private final RunScene run = new RunScene(check);

    public static void main(String[] args) {
        InstructionsTest test = new InstructionsTest();
        test.putting();
        test.sortsPut();
        test.payments();
        test.arithmetic();
        test.comparing();
        test.moving();
        test.jumping();
        test.musts();
        test.globals();
        test.locals();
        test.balances();
        test.scratch();
        test.peers();
        test.logging();
        test.returning();
        test.costs();
        test.check.finish();
    }

    private void putting() {
        check.sentence("0 NUM a: puts a.");
        run.logs("NUM 0", 0);
        run.logs("NUM 1", 1);
        run.logs("NUM 2147483647", Check.MAX);
        check.sentence("1 ACCOUNT a (0 .. 5): puts that account.");
        for (int account = 0; account < 6; account++) {
            run.logs("ACCOUNT " + account + "; BALANCE", new int[] {997, 469, 90, 60, 0, 69}[account]);
        }
        check.sentence("2 ARG a (0, 1): puts the call's argument a.");
        run.logs("ARG 0", 11);
        run.logs("ARG 1", 13);
        check.sentence("3 SENDER: puts the call's sender.");
        run.logs("SENDER; ACCOUNT 0; SAME", 1);
        run.logs("SENDER; ACCOUNT 1; SAME", 0);
        sendersOfAllCalls();
        check.sentence("4 SIZE: puts how many transactions the group has.");
        run.logs("SIZE", 4);
        sizeAndIndex("SIZE");
        check.sentence("5 INDEX: puts this one's place in the group, from 0.");
        run.logs("INDEX", RunScene.PLACE);
        sizeAndIndex("INDEX");
    }

    /** A NUMBER is refused where an account is taken, and the other way round, whoever put it. */
    private void sortsPut() {
        String[] numbers = {"NUM 0", "ARG 0", "SIZE", "INDEX", "NUM 0; AMOUNT", "NUM 3; NUM 2; ADD",
            "NUM 3; NUM 2; SUB", "NUM 3; NUM 2; MUL", "NUM 3; NUM 2; DIV", "NUM 3; NUM 2; LESS",
            "SENDER; SENDER; SAME", "NUM 0; NOT", "NUM 0; DUP", "NUM 0; SENDER; SWAP; SWAP; POP", "GET 0",
            "SENDER; LGET 0", "SENDER; BALANCE", "LOAD 0", "NUM 1; PEER 0"};
        for (String program : numbers) {
            check.sentence("A VALUE is a NUMBER or an account (a NUMBER is put): " + program);
            run.faults(program + "; BALANCE", 2, program.split(";").length);
        }
        String[] accounts = {"ACCOUNT 0", "SENDER", "NUM 0; RECEIVER", "SENDER; DUP", "SENDER; NUM 1; SWAP"};
        for (String program : accounts) {
            check.sentence("A VALUE is a NUMBER or an account (an account is put): " + program);
            run.faults(program + "; NOT", 2, program.split(";").length);
        }
    }

    private void sendersOfAllCalls() {
        GroupLedger ledger = Scene.funded(100, 200, 300, 400, 500, 600);
        Scene.install(ledger, 0, "SENDER; BALANCE; LOG; " + Scene.APPROVE);
        for (int account = 0; account < 6; account++) {
            check.due("call by " + account, Scene.submitCall(ledger, account, 0, 0), 0);
            check.due("its balance", ledger.logged(0), 100 * account + 99);
        }
    }

    private void sizeAndIndex(String code) {
        for (int size = 1; size <= 4; size++) {
            GroupLedger ledger = Scene.funded(100);
            Scene.install(ledger, 0, code + "; LOG; " + Scene.APPROVE);
            for (int n = 0; n < size; n++) {
                ledger.call(0, 0, 0, 0, 0);
            }
            check.due("submit of " + size, ledger.submit(), 0);
            for (int k = 0; k < size; k++) {
                check.due(code + " of " + size, ledger.logged(k), code.equals("SIZE") ? size : size - 1 - k);
            }
        }
    }

    private void payments() {
        check.sentence("6 AMOUNT: takes a NUMBER i; the group's transaction i must be a payment: puts its amount.");
        run.logs("NUM 0; AMOUNT", 30);
        run.logs("NUM 3; AMOUNT", 40);
        check.sentence("7 RECEIVER: takes a NUMBER i; must be a payment: puts its receiver.");
        run.logs("NUM 0; RECEIVER; ACCOUNT 2; SAME", 1);
        run.logs("NUM 3; RECEIVER; ACCOUNT 3; SAME", 1);
        run.logs("NUM 3; RECEIVER; NUM 3; SAME", 0);
        for (String code : new String[] {"AMOUNT", "RECEIVER"}) {
            check.sentence(code + ": transaction i must be a payment (a call, itself, none)");
            run.faults("NUM 1; " + code, 3, 1);
            run.faults("NUM 2; " + code, 3, 1);
            run.faults("NUM 4; " + code, 3, 1);
            run.faults("NUM 2147483647; " + code, 3, 1);
            oldTransactionsAreGone(code);
        }
        check.sentence("AMOUNT (0 and MAX)");
        amountOfALaterPayment(0, 0);
        amountOfALaterPayment(Check.MAX, 6);
    }

    /** A later payment is seen even if it then has a fault. */
    private void amountOfALaterPayment(int amount, int fault) {
        GroupLedger ledger = Scene.funded(100, 100);
        Scene.install(ledger, 0, "NUM 1; AMOUNT; NUM " + amount + "; SAME; RETURN");
        ledger.call(0, 0, 0, 0, 0);
        ledger.pay(0, 1, amount);
        check.due("submit with a payment of " + amount, ledger.submit(), fault);
        check.due("the run had no fault", ledger.report(3), 5);
    }

    /** Places that only an earlier, larger group had are not in this one. */
    private void oldTransactionsAreGone(String code) {
        GroupLedger ledger = RunScene.draft("NUM 3; " + code + "; POP; " + Scene.APPROVE);
        check.due("a group of 4", ledger.submit(), 0);
        check.due("place 3 in a group of 1", Scene.submitCall(ledger, 0), 3);
        Scene.install(ledger, 0, "NUM 0; " + code + "; POP; " + Scene.APPROVE);
        check.due("a call where a payment was", Scene.submitCall(ledger, 0), 3);
    }

    private void arithmetic() {
        check.sentence("8 ADD .. x op y; the result must be 0 .. MAX");
        run.logs("NUM 7; NUM 3; ADD", 10);
        run.logs("NUM 0; NUM 0; ADD", 0);
        run.logs("NUM 2147483646; NUM 1; ADD", Check.MAX);
        run.logs("NUM 0; NUM 2147483647; ADD", Check.MAX);
        run.faults("NUM 2147483647; NUM 1; ADD", 3, 2);
        run.faults("NUM 1; NUM 2147483647; ADD", 3, 2);
        run.faults("NUM 2147483647; NUM 2147483647; ADD", 3, 2);
        check.sentence("9 SUB .. x op y; the result must be 0 .. MAX");
        run.logs("NUM 7; NUM 3; SUB", 4);
        run.logs("NUM 7; NUM 7; SUB", 0);
        run.logs("NUM 2147483647; NUM 0; SUB", Check.MAX);
        run.faults("NUM 3; NUM 4; SUB", 3, 2);
        run.faults("NUM 0; NUM 2147483647; SUB", 3, 2);
        check.sentence("10 MUL .. x op y; the result must be 0 .. MAX");
        run.logs("NUM 7; NUM 3; MUL", 21);
        run.logs("NUM 0; NUM 2147483647; MUL", 0);
        run.logs("NUM 2147483647; NUM 0; MUL", 0);
        run.logs("NUM 2147483647; NUM 1; MUL", Check.MAX);
        run.logs("NUM 1073741823; NUM 2; MUL", Check.MAX - 1);
        run.logs("NUM 46340; NUM 46340; MUL", 2147395600);
        run.faults("NUM 46341; NUM 46341; MUL", 3, 2);
        run.faults("NUM 1073741824; NUM 2; MUL", 3, 2);
        check.sentence("10 MUL .. the result must be 0 .. MAX (where 32 bits would wrap around)");
        run.faults("NUM 65536; NUM 65536; MUL", 3, 2);
        run.faults("NUM 65537; NUM 65536; MUL", 3, 2);
        run.faults("NUM 2147483647; NUM 3; MUL", 3, 2);
        run.faults("NUM 2147483647; NUM 2147483647; MUL", 3, 2);
        check.sentence("11 DIV .. x op y, DIV rounded down");
        run.logs("NUM 7; NUM 3; DIV", 2);
        run.logs("NUM 8; NUM 3; DIV", 2);
        run.logs("NUM 9; NUM 3; DIV", 3);
        run.logs("NUM 3; NUM 7; DIV", 0);
        run.logs("NUM 0; NUM 7; DIV", 0);
        run.logs("NUM 2147483647; NUM 1; DIV", Check.MAX);
        run.logs("NUM 2147483646; NUM 2147483647; DIV", 0);
        check.sentence("and y of DIV not 0");
        run.faults("NUM 7; NUM 0; DIV", 3, 2);
        run.faults("NUM 0; NUM 0; DIV", 3, 2);
        run.faults("NUM 2147483647; NUM 0; DIV", 3, 2);
    }

    private void comparing() {
        check.sentence("12 LESS: takes NUMBERS x, y, puts 1 if x is less than y, else 0.");
        run.logs("NUM 3; NUM 4; LESS", 1);
        run.logs("NUM 4; NUM 3; LESS", 0);
        run.logs("NUM 7; NUM 7; LESS", 0);
        run.logs("NUM 0; NUM 2147483647; LESS", 1);
        run.logs("NUM 2147483647; NUM 0; LESS", 0);
        check.sentence("13 SAME: takes two VALUES, puts 1 if they are equal, else 0.");
        run.logs("NUM 7; NUM 7; SAME", 1);
        run.logs("NUM 7; NUM 8; SAME", 0);
        run.logs("NUM 2147483647; DUP; SAME", 1);
        run.logs("ACCOUNT 5; ACCOUNT 5; SAME", 1);
        run.logs("ACCOUNT 2; ACCOUNT 3; SAME", 0);
        check.sentence("A VALUE is a NUMBER or an account; they are never equal to each other.");
        for (int n = 0; n < 6; n++) {
            run.logs("ACCOUNT " + n + "; NUM " + n + "; SAME", 0);
            run.logs("NUM " + n + "; ACCOUNT " + n + "; SAME", 0);
        }
        check.sentence("14 NOT: takes a NUMBER, puts 1 if it is 0, else 0.");
        run.logs("NUM 0; NOT", 1);
        run.logs("NUM 1; NOT", 0);
        run.logs("NUM 2147483647; NOT", 0);
    }

    private void moving() {
        check.sentence("15 DUP: takes x, puts x, x.");
        run.logs("NUM 4; DUP; ADD", 8);
        run.logs("ACCOUNT 4; DUP; SAME", 1);
        run.logs("ACCOUNT 1; DUP; BALANCE; SWAP; POP", 469);
        check.sentence("16 SWAP: takes x, y, puts y, x.");
        run.logs("NUM 3; NUM 7; SWAP; SUB", 4);
        run.logs("ACCOUNT 0; NUM 7; SWAP; BALANCE; SWAP; SUB", 990);
        run.logs("NUM 7; ACCOUNT 0; SWAP", 7);
        check.sentence("17 POP: takes x.");
        run.logs("NUM 3; NUM 7; POP", 3);
        run.logs("NUM 3; ACCOUNT 1; POP", 3);
    }

    private void jumping() {
        check.sentence("18 GOTO a (0 .. 31).");
        run.logs("GOTO 2; NOT; NUM 5", 5);
        run.logs("GOTO 1; NUM 5", 5);
        jumpToTheLast("GOTO 31");
        check.sentence("19 IF a (0 .. 31): takes a NUMBER, goes to a if it is not 0.");
        run.logs("NUM 9; NUM 1; IF 4; NOT; NUM 1; ADD", 10);
        run.logs("NUM 9; NUM 2147483647; IF 4; NOT", 9);
        run.logs("NUM 9; NUM 0; IF 4; NOT; NUM 1; ADD", 1);
        jumpToTheLast("NUM 1; IF 31");
        check.sentence("18 GOTO a, 19 IF a (back to 0)");
        backToTheFirst("GOTO 0", 0);
        backToTheFirst("NUM 1; IF 0", 1);
    }

    /** 31 is the last instruction of a whole program: one RETURN stands there. */
    private void jumpToTheLast(String jump) {
        GroupLedger ledger = Scene.funded(100);
        int there = Scene.emit(ledger, "NUM 1; " + jump);
        for (int n = there; n < 31; n++) {
            Scene.emit(ledger, "ASSERT");
        }
        Scene.install(ledger, 0, "RETURN");
        check.due(jump + ": submit", Scene.submitCall(ledger, 0), 0);
        check.due(jump + ": instructions done", ledger.report(3), there + 1);
    }

    /** The first round puts 1 into a global NUMBER, with which the second one ends. */
    private void backToTheFirst(String jump, int cost) {
        GroupLedger ledger = Scene.funded(100);
        Scene.install(ledger, 0, "GET 0; IF 5; NUM 1; PUT 0; GOTO 7; NUM 1; RETURN; " + jump);
        check.due(jump + ": submit", Scene.submitCall(ledger, 0), 0);
        check.due(jump + ": cost", ledger.report(2), 4 + 4 + 1 + cost + 1 + 4 + 2);
    }

    private void musts() {
        check.sentence("20 ASSERT: takes a NUMBER, which must not be 0.");
        run.logs("NUM 9; NUM 1; ASSERT", 9);
        run.logs("NUM 9; NUM 2147483647; ASSERT", 9);
        run.faults("NUM 9; NUM 0; ASSERT", 3, 2);
    }

    private void globals() {
        check.sentence("21 GET a (0 .. 3): puts the app's global NUMBER a.");
        for (int k = 0; k < 4; k++) {
            run.logs("GET " + k, 0);
        }
        check.sentence("22 PUT a (0 .. 3): takes a NUMBER into it.");
        for (int k = 0; k < 4; k++) {
            int other = 3 - k;
            run.logs("NUM 8; PUT " + k + "; NUM 9; PUT " + other + "; GET " + k, 8);
            GroupLedger ledger = RunScene.draft("NUM 2147483647; PUT " + k + "; " + Scene.APPROVE);
            check.due("PUT " + k + ": fault", ledger.submit(), 0);
            check.due("global(0, " + k + ")", ledger.global(0, k), Check.MAX);
            check.due("another NUMBER", ledger.global(0, other), 0);
            check.due("another app's", ledger.global(1, k), 0);
        }
        check.sentence("21 GET a: puts the app's global NUMBER a (of each app its own)");
        GroupLedger ledger = Scene.funded(100);
        for (int app = 0; app < 4; app++) {
            Scene.install(ledger, app, "GET 1; ARG 0; ADD; PUT 1; GET 1; LOG; " + Scene.APPROVE);
        }
        for (int round = 1; round <= 2; round++) {
            for (int app = 0; app < 4; app++) {
                ledger.call(0, app, 0, 10 + app, 0);
                check.due("a call of app " + app, ledger.submit(), 0);
                check.due("what it got", ledger.logged(0), round * (10 + app));
            }
        }
    }

    private void locals() {
        check.sentence("23 LGET a (0, 1): takes an account, puts its local NUMBER a.");
        run.logs("SENDER; LGET 0", 21);
        run.logs("SENDER; LGET 1", 22);
        check.sentence("23 LGET: which must be OPTED into this app (nobody's, another app's)");
        run.faults("ACCOUNT 1; LGET 0", 3, 1);
        run.faults("ACCOUNT 5; LGET 1", 3, 1);
        check.sentence("24 LPUT a (0, 1): takes an account and a NUMBER, which becomes its local NUMBER a.");
        run.logs("SENDER; NUM 5; LPUT 1; SENDER; LGET 1", 5);
        run.logs("SENDER; NUM 5; LPUT 1; SENDER; LGET 0", 21);
        run.logs("SENDER; NUM 2147483647; LPUT 0; SENDER; LGET 0", Check.MAX);
        check.sentence("24 LPUT: which must be OPTED in (nobody's, another app's)");
        run.faults("ACCOUNT 1; NUM 5; LPUT 0", 3, 2);
        run.faults("ACCOUNT 5; NUM 5; LPUT 1", 3, 2);
        anotherAccountsLocals();
    }

    private void anotherAccountsLocals() {
        check.sentence("23 LGET, 24 LPUT: takes an account (that is not the sender)");
        GroupLedger ledger = Scene.funded(100, 100);
        Scene.install(ledger, 2, "ACCOUNT 1; NUM 6; LPUT 0; " + Scene.APPROVE);
        check.due("before 1 is OPTED in", Scene.submitCall(ledger, 0, 2, 0), 3);
        check.due("1 opts in", Scene.submitCall(ledger, 1, 2, 1), 0);
        check.due("a sender who is not OPTED in", Scene.submitCall(ledger, 0, 2, 0), 0);
        check.due("local(2, 1, 0)", ledger.local(2, 1, 0), 6);
        check.due("local(2, 0, 0)", ledger.local(2, 0, 0), Check.NONE);
        Scene.install(ledger, 2, "ACCOUNT 1; LGET 0; LOG; ACCOUNT 1; LGET 1; LOG; " + Scene.APPROVE);
        check.due("LGET of another account", Scene.submitCall(ledger, 0, 2, 0), 0);
        check.due("its local NUMBER 0", ledger.logged(1), 6);
        check.due("its local NUMBER 1", ledger.logged(0), 0);
    }

    private void balances() {
        check.sentence("25 BALANCE: takes an account, puts its balance now.");
        run.logs("SENDER; BALANCE", 997);
        run.logs("ACCOUNT 1; BALANCE", 469);
        run.logs("ACCOUNT 2; BALANCE", 90);
        run.logs("ACCOUNT 3; BALANCE", 60);
        check.sentence("25 BALANCE (0 and MAX)");
        run.logs("ACCOUNT 4; BALANCE", 0);
        GroupLedger ledger = Scene.funded(100, Check.MAX);
        Scene.install(ledger, 0, "ACCOUNT 1; BALANCE; LOG; " + Scene.APPROVE);
        check.due("submit", Scene.submitCall(ledger, 0), 0);
        check.due("a balance of MAX", ledger.logged(0), Check.MAX);
    }

    private void scratch() {
        check.sentence("26 LOAD a (0 .. 3): puts SCRATCH a.  27 STORE a (0 .. 3): takes a NUMBER into SCRATCH a.");
        for (int k = 0; k < 4; k++) {
            int other = 3 - k;
            run.logs("NUM 6; STORE " + k + "; NUM 7; STORE " + other + "; LOAD " + k, 6);
            run.logs("NUM 2147483647; STORE " + k + "; LOAD " + k, Check.MAX);
        }
        check.sentence("four SCRATCH NUMBERS 0 .. 3, 0 at first.");
        for (int k = 0; k < 4; k++) {
            run.logs("LOAD " + k, 0);
            GroupLedger ledger = Scene.funded(100);
            Scene.install(ledger, 0, "LOAD " + k + "; LOG; NUM 9; STORE " + k + "; " + Scene.APPROVE);
            for (int round = 0; round < 3; round++) {
                check.due("a run of round " + round, Scene.submitCall(ledger, 0), 0);
                check.due("SCRATCH " + k, ledger.logged(0), 0);
            }
        }
    }

    private void peers() {
        check.sentence("28 PEER a (0 .. 3): takes a NUMBER i: puts what its SCRATCH a was at its end.");
        for (int k = 0; k < 4; k++) {
            run.logs("NUM 1; PEER " + k, new int[] {5, 0, 7, 0}[k]);
        }
        peerOfEachPlace();
        check.sentence("28 PEER: transaction i must be .. a call (a payment before it)");
        run.faults("NUM 0; PEER 2", 3, 1);
        check.sentence("28 PEER: transaction i must be an earlier one of the group (itself, later, none)");
        run.faults("NUM 2; PEER 2", 3, 1);
        run.faults("NUM 3; PEER 2", 3, 1);
        run.faults("NUM 4; PEER 2", 3, 1);
        run.faults("NUM 2147483647; PEER 3", 3, 1);
        laterCallIsNoPeer();
    }

    private void laterCallIsNoPeer() {
        GroupLedger ledger = Scene.funded(100);
        Scene.install(ledger, 0, "NUM 1; PEER 0; " + Scene.APPROVE);
        Scene.install(ledger, 1, Scene.APPROVE);
        ledger.call(0, 0, 0, 0, 0);
        ledger.call(0, 1, 0, 0, 0);
        check.due("a later call", ledger.submit(), 3);
        check.due("its place", ledger.report(0), 0);
        Scene.install(ledger, 0, "NUM 0; PEER 0; " + Scene.APPROVE);
        check.due("itself, the first", Scene.submitCall(ledger, 0), 3);
    }

    private void peerOfEachPlace() {
        GroupLedger ledger = Scene.funded(100);
        Scene.install(ledger, 0, "NUM 99; STORE 0; ARG 0; STORE 0; ARG 1; STORE 3; " + Scene.APPROVE);
        Scene.install(ledger, 1, "NUM 0; PEER 0; LOG; NUM 1; PEER 3; LOG; NUM 2; PEER 0; LOG; " + Scene.APPROVE);
        for (int place = 0; place < 3; place++) {
            ledger.call(0, 0, 0, 30 + place, 40 + place);
        }
        ledger.call(0, 1, 0, 0, 0);
        check.due("submit of three and their PEER", ledger.submit(), 0);
        check.due("SCRATCH 0 of the first", ledger.logged(2), 30);
        check.due("SCRATCH 3 of the second", ledger.logged(1), 41);
        check.due("SCRATCH 0 of the third", ledger.logged(0), 32);
    }

    private void logging() {
        check.sentence("29 LOG: takes a NUMBER and logs it.");
        GroupLedger ledger = RunScene.draft("NUM 4; NUM 0; LOG; LOG; " + Scene.APPROVE);
        check.due("submit", ledger.submit(), 0);
        check.due("the last", ledger.logged(0), 4);
        check.due("the one before", ledger.logged(1), 0);
        check.due("count(4)", ledger.count(4), 2);
    }

    private void returning() {
        check.sentence("30 RETURN: takes a NUMBER; the run ends");
        run.logs("NUM 6; LOG; NUM 2147483647; RETURN; NUM 7", 6);
        GroupLedger ledger = RunScene.draft("SENDER; NUM 8; NUM 1; RETURN; ASSERT");
        check.due("VALUES may be left", ledger.submit(), 0);
        check.sentence("30 RETURN: .. and it must not be 0.");
        run.faults("NUM 0; RETURN", 3, 1);
        run.faults("NUM 1; NUM 0; RETURN; RETURN", 3, 2);
    }

    private void costs() {
        String[] programs = {"NUM 1", "ACCOUNT 1", "ARG 0", "SENDER", "SIZE", "INDEX", "NUM 0; AMOUNT",
            "NUM 0; RECEIVER", "NUM 3; NUM 2; ADD", "NUM 3; NUM 2; SUB", "NUM 3; NUM 2; MUL",
            "NUM 3; NUM 2; DIV", "NUM 3; NUM 2; LESS", "NUM 3; NUM 2; SAME", "NUM 3; NOT", "NUM 3; DUP",
            "NUM 3; NUM 2; SWAP", "NUM 3; POP", "GOTO 1", "NUM 0; IF 3", "NUM 1; ASSERT", "GET 0",
            "NUM 1; PUT 0", "SENDER; LGET 0", "SENDER; NUM 1; LPUT 0", "SENDER; BALANCE", "LOAD 0",
            "NUM 1; STORE 0", "NUM 1; PEER 2", "NUM 1; LOG", "NUM 1; RETURN"};
        for (int code = 0; code < programs.length; code++) {
            check.sentence("costs 1 if nothing is said; MUL and DIV cost 2; 21 to 25 cost 3: " + Scene.CODES.get(code));
            String end = code == 30 ? "" : "; " + Scene.APPROVE;
            GroupLedger ledger = RunScene.draft(programs[code] + end);
            int others = (programs[code] + end).split(";").length - 1;
            check.due(programs[code] + ": fault", ledger.submit(), 0);
            check.due(programs[code] + ": cost", ledger.report(2), RunScene.COST_BEFORE + others + costOf(code));
            check.due(programs[code] + ": done", ledger.report(3), RunScene.COST_BEFORE + others + 1);
        }
    }

    private static int costOf(int code) {
        if (code == 10 || code == 11) {
            return 2;
        }
        return code >= 21 && code <= 25 ? 3 : 1;
    }
}
