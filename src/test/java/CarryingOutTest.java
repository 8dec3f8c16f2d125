/** The section "Terms": GROUPS and CARRYING OUT, with the faults 6 to 10 and what they undo. */
final class CarryingOutTest {
    public static void main(String[] args) {
        Check check = new Check("carrying out");
        fees(check);
        paymentFaults(check);
        paymentToOneself(check);
        optingIn(check);
        closingOut(check);
        noProgram(check);
        leastOfSenderAndReceiver(check);
        sharedBudget(check);
        allOrNothing(check);
        localsOfAllComeBack(check);
        laterSeesEarlier(check);
        check.finish();
    }

    private static void fees(Check check) {
        GroupLedger ledger = Scene.funded(0, 100, 1);
        Scene.install(ledger, 0, Scene.APPROVE);
        check.due("no balance for the fee of a payment", Scene.submitPayment(ledger, 0, 1, 0), 6);
        check.due("no balance for the fee of a call", Scene.submitCall(ledger, 0, 0, 0), 6);
        check.due("fault 6 comes before fault 8", Scene.submitCall(ledger, 0, 0, 2), 6);
        check.due("fault 6 comes before fault 9", Scene.submitCall(ledger, 0, 1, 0), 6);
        check.due("a fee that leaves 0", Scene.submitCall(ledger, 2, 0, 0), 0);
        check.due("balance(2)", ledger.balance(2), 0);
        check.due("a call's fee", Scene.submitCall(ledger, 1, 0, 0), 0);
        check.due("balance(1)", ledger.balance(1), 99);
        check.due("a payment's fee", Scene.submitPayment(ledger, 1, 2, 10), 0);
        check.due("balance(1)", ledger.balance(1), 88);
    }

    private static void paymentFaults(Check check) {
        GroupLedger ledger = Scene.funded(100, Check.MAX - 5, 50);
        check.due("all but the fee", Scene.submitPayment(ledger, 0, 2, 100), 6);
        check.due("balance(0)", ledger.balance(0), 100);
        check.due("receiver above MAX", Scene.submitPayment(ledger, 0, 1, 6), 7);
        check.due("report(0)", ledger.report(0), 0);
        check.due("balance(0)", ledger.balance(0), 100);
        check.due("balance(1)", ledger.balance(1), Check.MAX - 5);
        check.due("fault 6 comes before fault 7", Scene.submitPayment(ledger, 0, 1, 100), 6);
        check.due("fault 7 comes before fault 10", Scene.submitPayment(ledger, 0, 1, 95), 7);
        check.due("receiver at MAX", Scene.submitPayment(ledger, 0, 1, 5), 0);
        check.due("balance(1)", ledger.balance(1), Check.MAX);
        check.due("everything away", Scene.submitPayment(ledger, 0, 2, 93), 0);
        check.due("balance(0)", ledger.balance(0), 0);
        check.due("least(0)", ledger.least(0), 0);
        check.due("MAX out of too little", Scene.submitPayment(ledger, 2, 0, Check.MAX), 6);
    }

    private static void paymentToOneself(Check check) {
        GroupLedger ledger = Scene.funded(Check.MAX, 20);
        check.due("to oneself near MAX", Scene.submitPayment(ledger, 0, 0, 50), 0);
        check.due("only the fee is gone", ledger.balance(0), Check.MAX - 1);
        check.due("the whole balance to oneself", Scene.submitPayment(ledger, 0, 0, Check.MAX - 2), 0);
        check.due("only the fee is gone", ledger.balance(0), Check.MAX - 2);
        check.due("more than the balance to oneself", Scene.submitPayment(ledger, 1, 1, 20), 6);
        check.due("balance(1)", ledger.balance(1), 20);
    }

    private static void optingIn(Check check) {
        GroupLedger ledger = Scene.funded(100, 14, 16);
        Scene.install(ledger, 0, "SENDER; LGET 0; LOG; SENDER; NUM 8; LPUT 0; " + Scene.APPROVE);
        check.due("plain, not OPTED in", Scene.submitCall(ledger, 0, 0, 0), 3);
        check.due("OPTED in before the run", Scene.submitCall(ledger, 0, 0, 1), 0);
        check.due("with a local NUMBER 0", ledger.logged(0), 0);
        check.due("local(0, 0, 0)", ledger.local(0, 0, 0), 8);
        check.due("local(0, 0, 1)", ledger.local(0, 0, 1), 0);
        check.due("again", Scene.submitCall(ledger, 0, 0, 1), 8);
        check.due("report(1)", ledger.report(1), Check.NONE);
        check.due("balance stays", ledger.balance(0), 99);
        check.due("plain, OPTED in", Scene.submitCall(ledger, 0, 0, 0), 0);
        check.due("below the new LEAST", Scene.submitCall(ledger, 1, 0, 1), 10);
        check.due("not OPTED in then", ledger.local(0, 1, 0), Check.NONE);
        check.due("at the new LEAST", Scene.submitCall(ledger, 2, 0, 1), 0);
        check.due("balance(2)", ledger.balance(2), 15);
        check.due("below it by a fee", Scene.submitCall(ledger, 2, 0, 0), 10);
    }

    private static void closingOut(Check check) {
        GroupLedger ledger = Scene.funded(100, 16);
        String program = "SENDER; LGET 1; LOG; SENDER; NUM 8; LPUT 1; ARG 0; NOT; RETURN";
        Scene.install(ledger, 3, program);
        check.due("not OPTED in", Scene.submitCall(ledger, 0, 3, 2), 8);
        check.due("opting in", Scene.submitCall(ledger, 0, 3, 1), 0);
        ledger.call(0, 3, 2, 1, 0);
        check.due("a run with a fault", ledger.submit(), 3);
        check.due("OPTED in still", ledger.local(3, 0, 1), 8);
        check.due("closing out", Scene.submitCall(ledger, 0, 3, 2), 0);
        check.due("it was OPTED in through the run", ledger.logged(0), 8);
        check.due("not any more", ledger.local(3, 0, 1), Check.NONE);
        check.due("least(0)", ledger.least(0), 10);
        check.due("closing out twice", Scene.submitCall(ledger, 0, 3, 2), 8);
        check.due("opting in again", Scene.submitCall(ledger, 0, 3, 1), 0);
        check.due("the NUMBER was 0 again", ledger.logged(0), 0);
        check.due("account 1 opts in", Scene.submitCall(ledger, 1, 3, 1), 0);
        check.due("below LEAST but for closing out", Scene.submitCall(ledger, 1, 3, 2), 0);
        check.due("balance(1)", ledger.balance(1), 14);
    }

    private static void noProgram(Check check) {
        GroupLedger ledger = Scene.funded(100);
        check.due("plain", Scene.submitCall(ledger, 0, 0, 0), 9);
        check.due("opting in", Scene.submitCall(ledger, 0, 0, 1), 9);
        check.due("nobody is OPTED in", ledger.local(0, 0, 0), Check.NONE);
        check.due("fault 8 comes before fault 9", Scene.submitCall(ledger, 0, 0, 2), 8);
        check.due("balance(0)", ledger.balance(0), 100);
        check.due("count(3)", ledger.count(3), 3);
    }

    private static void leastOfSenderAndReceiver(Check check) {
        GroupLedger ledger = Scene.funded(100, 9, 50);
        check.due("a sender with 9 left", Scene.submitPayment(ledger, 0, 2, 90), 10);
        check.due("a sender with 10 left", Scene.submitPayment(ledger, 0, 2, 89), 0);
        check.due("a receiver with 9", Scene.submitPayment(ledger, 2, 3, 9), 10);
        check.due("balance(3)", ledger.balance(3), 0);
        check.due("a receiver with 10", Scene.submitPayment(ledger, 2, 3, 10), 0);
        check.due("a receiver that stays at 9", Scene.submitPayment(ledger, 2, 1, 0), 10);
        check.due("a receiver that comes to 10", Scene.submitPayment(ledger, 2, 1, 1), 0);
        check.due("0 to one with 0", Scene.submitPayment(ledger, 2, 4, 0), 0);
        GroupLedger other = Scene.funded(100, 3, 100);
        Scene.install(other, 0, Scene.APPROVE);
        check.due("a third account below its LEAST", Scene.submitPayment(other, 0, 2, 5), 0);
        check.due("a call beside it", Scene.submitCall(other, 0, 0, 0), 0);
        other.pay(0, 4, 5);
        other.pay(0, 4, 5);
        check.due("tested after each transaction", other.submit(), 10);
        check.due("report(0)", other.report(0), 0);
        emptyButOpted(check);
    }

    /** An account with the balance 0 has a LEAST all the same if it is OPTED in. */
    private static void emptyButOpted(Check check) {
        GroupLedger ledger = Scene.funded(100);
        Scene.install(ledger, 0, Scene.APPROVE);
        check.due("opting in", Scene.submitCall(ledger, 0, 0, 1), 0);
        check.due("everything away", Scene.submitPayment(ledger, 0, 1, 98), 10);
        check.due("balance(0)", ledger.balance(0), 99);
        GroupLedger one = Scene.funded(1);
        Scene.install(one, 0, Scene.APPROVE);
        check.due("opting in with 0 left", Scene.submitCall(one, 0, 0, 1), 10);
    }

    private static void sharedBudget(Check check) {
        GroupLedger ledger = Scene.funded(100, 100);
        Scene.install(ledger, 0, "NUM 1; POP; ".repeat(14) + Scene.APPROVE);
        Scene.install(ledger, 1, "NUM 1; POP; ".repeat(4) + Scene.APPROVE);
        check.due("30 alone", Scene.submitCall(ledger, 0), 4);
        check.due("report(1)", ledger.report(1), 20);
        ledger.call(0, 0, 0, 0, 0);
        ledger.call(0, 1, 0, 0, 0);
        check.due("30 and 10 of 40", ledger.submit(), 0);
        check.due("report(2)", ledger.report(2), 40);
        ledger.call(0, 1, 0, 0, 0);
        ledger.call(0, 0, 0, 0, 0);
        check.due("a later call does not use it up", ledger.submit(), 0);
        ledger.call(0, 0, 0, 0, 0);
        ledger.pay(0, 1, 1);
        check.due("a payment brings no budget", ledger.submit(), 4);
        check.due("report(0)", ledger.report(0), 0);
        ledger.call(0, 0, 0, 0, 0);
        ledger.call(0, 0, 0, 0, 0);
        check.due("30 and 30 of 40", ledger.submit(), 4);
        check.due("report(0)", ledger.report(0), 1);
        check.due("report(1)", ledger.report(1), 10);
        check.due("report(2)", ledger.report(2), 40);
        ledger.call(0, 0, 0, 0, 0);
        ledger.call(0, 0, 0, 0, 0);
        ledger.call(0, 1, 0, 0, 0);
        ledger.call(0, 1, 0, 0, 0);
        check.due("80 of 80", ledger.submit(), 0);
        check.due("report(2)", ledger.report(2), 80);
        check.due("the next group has 20 again", Scene.submitCall(ledger, 0), 4);
        check.due("report(2)", ledger.report(2), 20);
    }

    private static void allOrNothing(Check check) {
        GroupLedger ledger = Scene.funded(200, 200, 200);
        String program = "ARG 0; PUT 2; SENDER; ARG 0; LPUT 1; ARG 0; LOG; " + Scene.APPROVE;
        Scene.install(ledger, 0, program);
        ledger.call(0, 0, 1, 5, 0);
        ledger.pay(1, 2, 20);
        check.due("a good group", ledger.submit(), 0);
        ledger.call(1, 0, 1, 6, 0);
        ledger.call(0, 0, 2, 7, 0);
        ledger.pay(2, 3, 30);
        ledger.pay(4, 0, 0);
        check.due("a group whose last has a fault", ledger.submit(), 6);
        check.due("report(0)", ledger.report(0), 3);
        check.due("balance(0)", ledger.balance(0), 199);
        check.due("balance(1)", ledger.balance(1), 179);
        check.due("balance(2)", ledger.balance(2), 220);
        check.due("balance(3)", ledger.balance(3), 0);
        check.due("global(0, 2)", ledger.global(0, 2), 5);
        check.due("local(0, 0, 1)", ledger.local(0, 0, 1), 5);
        check.due("local(0, 1, 1)", ledger.local(0, 1, 1), Check.NONE);
        check.due("logged(0)", ledger.logged(0), 5);
        check.due("logged(1)", ledger.logged(1), Check.NONE);
        check.due("count(4)", ledger.count(4), 1);
        check.due("the program stays", ledger.count(5), 9);
    }

    private static void localsOfAllComeBack(Check check) {
        GroupLedger ledger = Scene.funded(200, 200, 200, 200, 200, 200);
        Scene.install(ledger, 3, "SENDER; ARG 0; LPUT 0; SENDER; ARG 0; LPUT 1; ARG 1; RETURN");
        for (int account = 0; account < 6; account++) {
            ledger.call(account, 3, 1, 50 + account, 1);
            check.due("opting in", ledger.submit(), 0);
            ledger.call(account, 3, 0, 70, 1);
            ledger.call(account, 3, 2, 80, 0);
            check.due("a fault", ledger.submit(), 3);
        }
        for (int account = 0; account < 6; account++) {
            check.due("local NUMBER 0 of " + account, ledger.local(3, account, 0), 50 + account);
            check.due("local NUMBER 1 of " + account, ledger.local(3, account, 1), 50 + account);
            ledger.call(account, 3, 2, 90, 1);
            check.due("closing out", ledger.submit(), 0);
        }
        Scene.install(ledger, 3, Scene.APPROVE);
        for (int account = 0; account < 6; account++) {
            check.due("opting in again", Scene.submitCall(ledger, account, 3, 1), 0);
            check.due("local NUMBER 0 of " + account, ledger.local(3, account, 0), 0);
            check.due("local NUMBER 1 of " + account, ledger.local(3, account, 1), 0);
        }
    }

    private static void laterSeesEarlier(Check check) {
        GroupLedger ledger = Scene.funded(100, 100);
        Scene.install(ledger, 0, "GET 0; ARG 0; ADD; DUP; PUT 0; LOG; ACCOUNT 1; BALANCE; LOG; " + Scene.APPROVE);
        ledger.call(0, 0, 0, 3, 0);
        ledger.pay(0, 1, 40);
        ledger.call(0, 0, 0, 4, 0);
        check.due("submit", ledger.submit(), 0);
        check.due("global after the first", ledger.logged(3), 3);
        check.due("balance after the first", ledger.logged(2), 100);
        check.due("global after the second", ledger.logged(1), 7);
        check.due("balance after the payment", ledger.logged(0), 140);
        check.due("opting in and out in one group", optInAndOut(ledger), 0);
        check.due("local(0, 0, 0)", ledger.local(0, 0, 0), Check.NONE);
    }

    private static int optInAndOut(GroupLedger ledger) {
        ledger.call(0, 0, 1, 0, 0);
        ledger.call(0, 0, 2, 0, 0);
        return ledger.submit();
    }
}
