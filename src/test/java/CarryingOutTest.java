/** The section "Terms", for promise 7: GROUPS and CARRYING OUT, the faults 6 to 10, what they undo. */
final class CarryingOutTest {
    private final Check check = new Check("carrying out (Terms; promise 7)");

    public static void main(String[] args) {
        CarryingOutTest test = new CarryingOutTest();
        test.inOrder();
        test.fees();
        test.feeTooHigh();
        test.amountTooHigh();
        test.receiverAboveMax();
        test.paymentToOneself();
        test.optingIn();
        test.closingOut();
        test.closingOutAfterTheRun();
        test.noProgram();
        test.leastOfTheSender();
        test.leastOfTheReceiver();
        test.leastOfNobodyElse();
        test.leastAfterEach();
        test.leastWithOptedApps();
        test.orderOfFaults();
        test.budgetOfEachCall();
        test.budgetIsShared();
        test.allOrNothing();
        test.localsOfAllComeBack();
        test.whatIsNotUndone();
        test.check.finish();
    }

    private void inOrder() {
        check.sentence("Its transactions are done in order.");
        GroupLedger ledger = Scene.funded(100, 100);
        Scene.install(ledger, 0, "GET 0; ARG 0; ADD; DUP; PUT 0; LOG; ACCOUNT 1; BALANCE; LOG; " + Scene.APPROVE);
        ledger.call(0, 0, 0, 3, 0);
        ledger.pay(0, 1, 40);
        ledger.call(0, 0, 0, 4, 0);
        check.due("submit", ledger.submit(), 0);
        check.due("global after the first", ledger.logged(3), 3);
        check.due("balance after the first", ledger.logged(2), 100);
        check.due("global after the second", ledger.logged(1), 7);
        check.due("balance after the payment", ledger.logged(0), 140);
        ledger.pay(2, 0, 10);
        ledger.pay(1, 2, 30);
        check.due("paid before it is there", ledger.submit(), 6);
        ledger.pay(1, 2, 30);
        ledger.pay(2, 0, 10);
        check.due("paid after it is there", ledger.submit(), 0);
        ledger.call(0, 0, 1, 0, 0);
        ledger.call(0, 0, 2, 0, 0);
        check.due("opting in and closing out in one group", ledger.submit(), 0);
        check.due("local(0, 0, 0)", ledger.local(0, 0, 0), Check.NONE);
    }

    private void fees() {
        check.sentence("the sender pays a fee of 1");
        GroupLedger ledger = Scene.funded(0, 100, 1, 13);
        Scene.install(ledger, 0, Scene.APPROVE);
        check.due("a call's fee", Scene.submitCall(ledger, 1, 0, 0), 0);
        check.due("balance(1)", ledger.balance(1), 99);
        check.due("a payment's fee", Scene.submitPayment(ledger, 1, 4, 10), 0);
        check.due("balance(1)", ledger.balance(1), 88);
        check.due("the receiver pays none", ledger.balance(4), 10);
        check.due("a fee that leaves 0", Scene.submitCall(ledger, 2, 0, 0), 0);
        check.due("balance(2)", ledger.balance(2), 0);
        for (int n = 0; n < 3; n++) {
            ledger.call(3, 0, 0, 0, 0);
        }
        check.due("three fees", ledger.submit(), 0);
        check.due("balance(3)", ledger.balance(3), 10);
    }

    private void feeTooHigh() {
        check.sentence("its balance is less than 1: fault 6.");
        GroupLedger ledger = Scene.funded(0, 100, 1);
        Scene.install(ledger, 0, Scene.APPROVE);
        check.due("a payment", Scene.submitPayment(ledger, 0, 1, 0), 6);
        check.due("a payment to oneself", Scene.submitPayment(ledger, 0, 0, 0), 6);
        check.due("a call", Scene.submitCall(ledger, 0, 0, 0), 6);
        check.due("opting in", Scene.submitCall(ledger, 0, 0, 1), 6);
        ledger.call(2, 0, 0, 0, 0);
        ledger.call(2, 0, 0, 0, 0);
        check.due("the second fee out of 1", ledger.submit(), 6);
        check.due("report(0)", ledger.report(0), 1);
        check.due("balance(2)", ledger.balance(2), 1);
    }

    private void amountTooHigh() {
        check.sentence("the sender's balance is less than the amount: fault 6");
        GroupLedger ledger = Scene.funded(100, 50);
        check.due("all but the fee", Scene.submitPayment(ledger, 0, 1, 100), 6);
        check.due("balance(0)", ledger.balance(0), 100);
        check.due("MAX", Scene.submitPayment(ledger, 0, 1, Check.MAX), 6);
        check.due("MAX to one with nothing", Scene.submitPayment(ledger, 0, 2, Check.MAX), 6);
        check.due("more than the balance to oneself", Scene.submitPayment(ledger, 0, 0, 100), 6);
        check.due("all of it, with the fee", Scene.submitPayment(ledger, 0, 1, 99), 0);
        check.due("balance(0)", ledger.balance(0), 0);
        check.due("balance(1)", ledger.balance(1), 149);
    }

    private void receiverAboveMax() {
        check.sentence("the receiver's would be above MAX: fault 7; else the amount moves.");
        GroupLedger ledger = Scene.funded(100, Check.MAX - 5, 50);
        check.due("MAX - 5 and 6", Scene.submitPayment(ledger, 0, 1, 6), 7);
        check.due("report(0)", ledger.report(0), 0);
        check.due("balance(0)", ledger.balance(0), 100);
        check.due("balance(1)", ledger.balance(1), Check.MAX - 5);
        check.due("MAX - 5 and 5", Scene.submitPayment(ledger, 0, 1, 5), 0);
        check.due("balance(0)", ledger.balance(0), 94);
        check.due("balance(1)", ledger.balance(1), Check.MAX);
        check.due("MAX and 0", Scene.submitPayment(ledger, 0, 1, 0), 0);
        check.due("MAX and 1", Scene.submitPayment(ledger, 0, 1, 1), 7);
        GroupLedger two = Scene.funded(Check.MAX, Check.MAX);
        check.due("MAX and MAX - 1, which wraps around", Scene.submitPayment(two, 0, 1, Check.MAX - 1), 7);
        check.due("MAX and MAX - 1 after it has paid", payBack(two), 0);
        check.due("balance(1)", two.balance(1), Check.MAX - 1);
    }

    private static int payBack(GroupLedger ledger) {
        ledger.pay(1, 2, Check.MAX - 1);
        ledger.pay(0, 1, Check.MAX - 1);
        return ledger.submit();
    }

    /** The balance would not be above MAX: what comes in has gone out. */
    private void paymentToOneself() {
        check.sentence("the receiver's would be above MAX: fault 7 (not to oneself)");
        GroupLedger ledger = Scene.funded(Check.MAX, 20, 11);
        check.due("to oneself near MAX", Scene.submitPayment(ledger, 0, 0, 50), 0);
        check.due("only the fee is gone", ledger.balance(0), Check.MAX - 1);
        check.due("the whole balance to oneself", Scene.submitPayment(ledger, 0, 0, Check.MAX - 2), 0);
        check.due("only the fee is gone", ledger.balance(0), Check.MAX - 2);
        check.due("19 of 20", Scene.submitPayment(ledger, 1, 1, 19), 0);
        check.due("only the fee is gone", ledger.balance(1), 19);
        check.due("down to 10", Scene.submitPayment(ledger, 2, 2, 10), 0);
        check.due("below its LEAST", Scene.submitPayment(ledger, 2, 2, 0), 10);
    }

    private void optingIn() {
        check.sentence("kind 1: the sender, which must not be OPTED in (else fault 8), is, with local NUMBERS 0");
        GroupLedger ledger = Scene.funded(100);
        Scene.install(ledger, 0, "SENDER; LGET 0; LOG; SENDER; LGET 1; LOG; SENDER; NUM 8; LPUT 0; " + Scene.APPROVE);
        check.due("plain, not OPTED in", Scene.submitCall(ledger, 0, 0, 0), 3);
        check.due("OPTED in before the run", Scene.submitCall(ledger, 0, 0, 1), 0);
        check.due("with local NUMBER 0", ledger.logged(1), 0);
        check.due("and local NUMBER 1", ledger.logged(0), 0);
        check.due("local(0, 0, 0)", ledger.local(0, 0, 0), 8);
        check.due("local(0, 0, 1)", ledger.local(0, 0, 1), 0);
        check.due("again", Scene.submitCall(ledger, 0, 0, 1), 8);
        check.due("report(1)", ledger.report(1), Check.NONE);
        check.due("balance stays", ledger.balance(0), 99);
        check.due("local NUMBERS stay", ledger.local(0, 0, 0), 8);
        check.due("plain, OPTED in", Scene.submitCall(ledger, 0, 0, 0), 0);
        Scene.install(ledger, 1, Scene.APPROVE);
        check.due("into another app", Scene.submitCall(ledger, 0, 1, 1), 0);
        ledger.mint(1, 100);
        ledger.call(1, 1, 1, 0, 0);
        ledger.call(1, 1, 1, 0, 0);
        check.due("twice in one group", ledger.submit(), 8);
        check.due("report(0)", ledger.report(0), 1);
        check.due("not OPTED in then", ledger.local(1, 1, 0), Check.NONE);
    }

    private void closingOut() {
        check.sentence("kind 0 and 2: it must be OPTED in for kind 2 (else fault 8).");
        GroupLedger ledger = Scene.funded(100, 100);
        Scene.install(ledger, 3, Scene.APPROVE);
        check.due("plain needs no OPTED mark", Scene.submitCall(ledger, 0, 3, 0), 0);
        check.due("closing out, not OPTED in", Scene.submitCall(ledger, 0, 3, 2), 8);
        check.due("opting in", Scene.submitCall(ledger, 0, 3, 1), 0);
        check.due("another account closing out", Scene.submitCall(ledger, 1, 3, 2), 8);
        Scene.install(ledger, 2, Scene.APPROVE);
        check.due("closing out of another app", Scene.submitCall(ledger, 0, 2, 2), 8);
        check.due("closing out", Scene.submitCall(ledger, 0, 3, 2), 0);
        check.due("closing out twice", Scene.submitCall(ledger, 0, 3, 2), 8);
    }

    private void closingOutAfterTheRun() {
        check.sentence("After it, with kind 2 the sender is not OPTED in any more.");
        GroupLedger ledger = Scene.funded(100, 16);
        Scene.install(ledger, 3, "SENDER; LGET 1; LOG; SENDER; NUM 8; LPUT 1; ARG 0; NOT; RETURN");
        check.due("opting in", Scene.submitCall(ledger, 0, 3, 1), 0);
        check.due("plain", Scene.submitCall(ledger, 0, 3, 0), 0);
        check.due("OPTED in still", ledger.local(3, 0, 1), 8);
        ledger.call(0, 3, 2, 1, 0);
        check.due("a run with a fault", ledger.submit(), 3);
        check.due("OPTED in still", ledger.local(3, 0, 1), 8);
        check.due("closing out", Scene.submitCall(ledger, 0, 3, 2), 0);
        check.due("it was OPTED in through the run", ledger.logged(0), 8);
        check.due("not any more", ledger.local(3, 0, 1), Check.NONE);
        check.due("least(0)", ledger.least(0), 10);
        check.due("opting in again", Scene.submitCall(ledger, 0, 3, 1), 0);
        check.due("the NUMBER was 0 again", ledger.logged(0), 0);
        check.due("account 1 opts in", Scene.submitCall(ledger, 1, 3, 1), 0);
        check.due("below its LEAST but for closing out", Scene.submitCall(ledger, 1, 3, 2), 0);
        check.due("balance(1)", ledger.balance(1), 14);
    }

    private void noProgram() {
        check.sentence("The app has no program: fault 9.");
        GroupLedger ledger = Scene.funded(100);
        for (int app = 0; app < 4; app++) {
            check.due("plain", Scene.submitCall(ledger, 0, app, 0), 9);
            check.due("opting in", Scene.submitCall(ledger, 0, app, 1), 9);
            check.due("not OPTED in", ledger.local(app, 0, 0), Check.NONE);
        }
        Scene.emit(ledger, Scene.APPROVE);
        check.due("a program draft is none", Scene.submitCall(ledger, 0, 0, 0), 9);
        ledger.deploy(1);
        check.due("another app's is none", Scene.submitCall(ledger, 0, 0, 0), 9);
        check.due("balance(0)", ledger.balance(0), 100);
    }

    private void leastOfTheSender() {
        check.sentence("At last, if the balance of the sender .. is below its LEAST: fault 10.");
        GroupLedger ledger = Scene.funded(100, 11, 50);
        Scene.install(ledger, 0, Scene.APPROVE);
        check.due("9 left", Scene.submitPayment(ledger, 0, 2, 90), 10);
        check.due("balance(0)", ledger.balance(0), 100);
        check.due("1 left", Scene.submitPayment(ledger, 0, 2, 98), 10);
        check.due("10 left", Scene.submitPayment(ledger, 0, 2, 89), 0);
        check.due("a call that leaves 10", Scene.submitCall(ledger, 1, 0, 0), 0);
        check.due("a call that leaves 9", Scene.submitCall(ledger, 1, 0, 0), 10);
        check.due("report(0)", ledger.report(0), 0);
        check.due("balance(1)", ledger.balance(1), 10);
        check.due("0 left, whose LEAST is 0", Scene.submitPayment(ledger, 1, 2, 9), 0);
        check.due("balance(1)", ledger.balance(1), 0);
    }

    private void leastOfTheReceiver() {
        check.sentence("At last, if the balance .. of a payment's receiver, is below its LEAST: fault 10.");
        GroupLedger ledger = Scene.funded(100, 9, 50);
        check.due("9 to one with nothing", Scene.submitPayment(ledger, 2, 3, 9), 10);
        check.due("balance(3)", ledger.balance(3), 0);
        check.due("10 to one with nothing", Scene.submitPayment(ledger, 2, 3, 10), 0);
        check.due("one that stays at 9", Scene.submitPayment(ledger, 2, 1, 0), 10);
        check.due("one that comes to 10", Scene.submitPayment(ledger, 2, 1, 1), 0);
        check.due("0 to one with nothing", Scene.submitPayment(ledger, 2, 4, 0), 0);
        check.due("1 to one with nothing", Scene.submitPayment(ledger, 2, 4, 1), 10);
    }

    private void leastOfNobodyElse() {
        check.sentence("the balance of the sender, or of a payment's receiver (and of no other account)");
        GroupLedger ledger = Scene.funded(100, 3, 100);
        Scene.install(ledger, 0, "ACCOUNT 1; BALANCE; LOG; " + Scene.APPROVE);
        check.due("a payment beside one with 3", Scene.submitPayment(ledger, 0, 2, 5), 0);
        ledger.pay(0, 2, 5);
        ledger.call(0, 0, 0, 1, 1);
        check.due("a call behind a payment", ledger.submit(), 0);
        ledger.pay(0, 1, 7);
        ledger.discard();
        check.due("a call where a payment to it was", Scene.submitCall(ledger, 0), 0);
    }

    private void leastAfterEach() {
        check.sentence("Each: .. At last (of each transaction, not of the group)");
        GroupLedger ledger = Scene.funded(100, 100);
        ledger.pay(0, 4, 5);
        ledger.pay(0, 4, 5);
        check.due("5 and 5 to one with nothing", ledger.submit(), 10);
        check.due("report(0)", ledger.report(0), 0);
        ledger.pay(0, 1, 95);
        ledger.pay(1, 0, 50);
        check.due("4 left until it is paid back", ledger.submit(), 10);
        check.due("report(0)", ledger.report(0), 0);
    }

    /** An account with the balance 0 has a LEAST all the same if it is OPTED in. */
    private void leastWithOptedApps() {
        check.sentence("below its LEAST (of one that is OPTED in)");
        GroupLedger ledger = Scene.funded(100, 15, 16, 1);
        Scene.install(ledger, 0, Scene.APPROVE);
        check.due("opting in with 14 left", Scene.submitCall(ledger, 1, 0, 1), 10);
        check.due("not OPTED in then", ledger.local(0, 1, 0), Check.NONE);
        check.due("opting in with 15 left", Scene.submitCall(ledger, 2, 0, 1), 0);
        check.due("balance(2)", ledger.balance(2), 15);
        check.due("below it by a fee", Scene.submitCall(ledger, 2, 0, 0), 10);
        check.due("opting in with 0 left", Scene.submitCall(ledger, 3, 0, 1), 10);
        check.due("account 0 opts in", Scene.submitCall(ledger, 0, 0, 1), 0);
        check.due("all of it paid away", Scene.submitPayment(ledger, 0, 5, 98), 10);
        check.due("14 left", Scene.submitPayment(ledger, 0, 5, 84), 10);
        check.due("15 left", Scene.submitPayment(ledger, 0, 5, 83), 0);
        Scene.install(ledger, 1, Scene.APPROVE);
        ledger.mint(0, 5);
        check.due("a second app with 19 left", Scene.submitCall(ledger, 0, 1, 1), 10);
        ledger.mint(0, 1);
        check.due("a second app with 20 left", Scene.submitCall(ledger, 0, 1, 1), 0);
    }

    private void orderOfFaults() {
        check.sentence("fault 6 .. Then .. fault 6; .. fault 7; .. fault 8 .. fault 9 .. At last .. fault 10");
        GroupLedger ledger = Scene.funded(0, 100, Check.MAX - 5, 1);
        Scene.install(ledger, 0, "NUM 0; RETURN");
        check.due("6 before 8", Scene.submitCall(ledger, 0, 0, 2), 6);
        check.due("6 before 9", Scene.submitCall(ledger, 0, 1, 0), 6);
        check.due("6 before 3", Scene.submitCall(ledger, 0, 0, 0), 6);
        check.due("6 of the amount before 7", Scene.submitPayment(ledger, 1, 2, 100), 6);
        check.due("6 of the amount before 10", Scene.submitPayment(ledger, 3, 1, 1), 6);
        check.due("7 before 10", Scene.submitPayment(ledger, 1, 2, 95), 7);
        check.due("8 before 9", Scene.submitCall(ledger, 1, 1, 2), 8);
        check.due("8 before 3", Scene.submitCall(ledger, 1, 0, 2), 8);
        ledger.mint(4, 5);
        check.due("9 before 10", Scene.submitCall(ledger, 4, 1, 0), 9);
        check.due("3 before 10", Scene.submitCall(ledger, 4, 0, 0), 3);
        check.due("8 before 10", Scene.submitCall(ledger, 4, 0, 2), 8);
    }

    private GroupLedger withLongAndShort() {
        GroupLedger ledger = Scene.funded(100, 100);
        Scene.install(ledger, 0, "NUM 1; POP; ".repeat(14) + Scene.APPROVE);
        Scene.install(ledger, 1, "NUM 1; POP; ".repeat(4) + Scene.APPROVE);
        return ledger;
    }

    private void budgetOfEachCall() {
        check.sentence("the budget is 20 for each of its calls");
        for (int calls = 1; calls <= 4; calls++) {
            GroupLedger ledger = Scene.funded(100, 100);
            Scene.install(ledger, 0, "GOTO 0");
            for (int n = 0; n < calls; n++) {
                ledger.call(0, 0, 0, 0, 0);
            }
            if (calls < 4) {
                ledger.pay(0, 1, 10);
            }
            check.due("a run without an end, with " + calls, ledger.submit(), 4);
            check.due("what it cost", ledger.report(2), 20 * calls);
            check.due("its place", ledger.report(0), 0);
        }
        GroupLedger ledger = withLongAndShort();
        ledger.call(0, 0, 0, 0, 0);
        ledger.pay(0, 1, 1);
        check.due("a payment brings no budget", ledger.submit(), 4);
        check.due("report(2)", ledger.report(2), 20);
        check.due("30 alone in the next group", Scene.submitCall(ledger, 0), 4);
        check.due("report(2)", ledger.report(2), 20);
    }

    private void budgetIsShared() {
        check.sentence("the budget is 20 for each of its calls (which share it)");
        GroupLedger ledger = withLongAndShort();
        ledger.call(0, 0, 0, 0, 0);
        ledger.call(0, 1, 0, 0, 0);
        check.due("30 and 10 of 40", ledger.submit(), 0);
        check.due("report(2)", ledger.report(2), 40);
        ledger.call(0, 1, 0, 0, 0);
        ledger.call(0, 0, 0, 0, 0);
        check.due("10 and 30 of 40", ledger.submit(), 0);
        ledger.call(0, 0, 0, 0, 0);
        ledger.call(0, 0, 0, 0, 0);
        check.due("30 and 30 of 40", ledger.submit(), 4);
        check.due("report(0)", ledger.report(0), 1);
        check.due("report(1)", ledger.report(1), 10);
        check.due("report(2)", ledger.report(2), 40);
        ledger.call(0, 0, 0, 0, 0);
        ledger.call(0, 0, 0, 0, 0);
        ledger.call(0, 1, 0, 0, 0);
        ledger.call(0, 1, 0, 0, 0);
        check.due("80 of 80", ledger.submit(), 0);
        check.due("report(2)", ledger.report(2), 80);
        check.due("30 alone, of the 20 of a new group", Scene.submitCall(ledger, 0), 4);
    }

    private void allOrNothing() {
        check.sentence("With the first fault all balances, global and local NUMBERS and OPTED marks are as before"
                + " the group, and nothing was logged.");
        GroupLedger ledger = Scene.funded(200, 200, 200);
        Scene.install(ledger, 0, "ARG 0; PUT 2; SENDER; ARG 0; LPUT 1; ARG 0; LOG; " + Scene.APPROVE);
        ledger.call(0, 0, 1, 5, 0);
        ledger.pay(1, 2, 20);
        check.due("a good group", ledger.submit(), 0);
        ledger.call(1, 0, 1, 6, 0);
        ledger.call(0, 0, 2, 7, 0);
        ledger.pay(2, 3, 30);
        ledger.pay(4, 0, 0);
        check.due("a group whose last has a fault", ledger.submit(), 6);
        check.due("report(0)", ledger.report(0), 3);
        check.due("balance(0)", ledger.balance(0), 199);
        check.due("balance(1)", ledger.balance(1), 179);
        check.due("balance(2)", ledger.balance(2), 220);
        check.due("balance(3)", ledger.balance(3), 0);
        check.due("global(0, 2)", ledger.global(0, 2), 5);
        check.due("local(0, 0, 1)", ledger.local(0, 0, 1), 5);
        check.due("local(0, 1, 1)", ledger.local(0, 1, 1), Check.NONE);
        check.due("least(0)", ledger.least(0), 15);
        check.due("least(1)", ledger.least(1), 10);
        check.due("logged(0)", ledger.logged(0), 5);
        check.due("logged(1)", ledger.logged(1), Check.NONE);
        check.due("count(4)", ledger.count(4), 1);
    }

    private void localsOfAllComeBack() {
        check.sentence("With the first fault all .. local NUMBERS .. are as before the group (of every account)");
        GroupLedger ledger = Scene.funded(200, 200, 200, 200, 200, 200);
        Scene.install(ledger, 3, "SENDER; ARG 0; LPUT 0; SENDER; ARG 0; LPUT 1; ARG 1; RETURN");
        for (int account = 0; account < 6; account++) {
            ledger.call(account, 3, 1, 50 + account, 1);
            check.due("opting in", ledger.submit(), 0);
            ledger.call(account, 3, 0, 70, 1);
            ledger.call(account, 3, 2, 80, 0);
            check.due("a fault", ledger.submit(), 3);
        }
        for (int account = 0; account < 6; account++) {
            check.due("local NUMBER 0 of " + account, ledger.local(3, account, 0), 50 + account);
            check.due("local NUMBER 1 of " + account, ledger.local(3, account, 1), 50 + account);
            ledger.call(account, 3, 2, 90, 1);
            check.due("closing out", ledger.submit(), 0);
        }
        Scene.install(ledger, 3, Scene.APPROVE);
        for (int account = 0; account < 6; account++) {
            check.due("opting in again", Scene.submitCall(ledger, account, 3, 1), 0);
            check.due("local NUMBER 0 of " + account, ledger.local(3, account, 0), 0);
            check.due("local NUMBER 1 of " + account, ledger.local(3, account, 1), 0);
        }
    }

    private void whatIsNotUndone() {
        check.sentence("With the first fault (programs and the program draft stay)");
        GroupLedger ledger = Scene.funded(100);
        Scene.install(ledger, 0, "NUM 0; RETURN");
        Scene.emit(ledger, "NUM 1; LOG; POP");
        check.due("a fault", Scene.submitCall(ledger, 0), 3);
        check.due("count(5)", ledger.count(5), 2);
        check.due("count(0)", ledger.count(0), 3);
        check.due("what was minted stays", ledger.balance(0), 100);
        check.due("the same fault again", Scene.submitCall(ledger, 0), 3);
    }
}
