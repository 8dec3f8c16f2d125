/** Promise 7: submit, the answers; how a group is carried out is in CarryingOutTest. */
final class Promise07SubmitTest {
    public static void main(String[] args) {
        Check check = new Check("promise 7, submit");
        withoutFault(check);
        for (int fault = 1; fault <= 10; fault++) {
            withFault(check, fault);
        }
        emptyDraft(check);
        fullGroups(check);
        check.finish();
    }

    private static void withoutFault(Check check) {
        check.sentence("CARRIES OUT the DRAFT, which is empty then: 0");
        GroupLedger ledger = Scene.funded(100, 100);
        ledger.pay(0, 1, 10);
        check.due("submit", ledger.submit(), 0);
        check.due("count(1)", ledger.count(1), 0);
        check.due("balance(0)", ledger.balance(0), 89);
        check.due("balance(1)", ledger.balance(1), 110);
        check.due("the next group begins at 0", ledger.pay(0, 1, 1), 0);
        check.due("and has one transaction", ledger.submit(), 0);
        check.due("balance(0)", ledger.balance(0), 87);
    }

    /** A program whose run has this fault 1 .. 5. */
    private static String programWithFault(int fault) {
        return switch (fault) {
            case 1 -> "POP";
            case 2 -> "SENDER; LOG";
            case 3 -> "NUM 0; ASSERT";
            case 4 -> "GOTO 0";
            default -> "NUM 1";
        };
    }

    /** Puts a transaction with this fault 6 .. 10; account 0 has 100, 1 has MAX, 2 has nothing. */
    private static void putWithFault(GroupLedger ledger, int fault) {
        switch (fault) {
            case 6 -> ledger.pay(2, 0, 0);
            case 7 -> ledger.pay(0, 1, 1);
            case 8 -> ledger.call(0, 0, 2, 0, 0);
            case 9 -> ledger.call(0, 0, 0, 0, 0);
            default -> ledger.pay(0, 2, 9);
        }
    }

    private static void withFault(Check check, int fault) {
        check.sentence("CARRIES OUT the DRAFT, which is empty then: .. or the fault: " + fault);
        GroupLedger ledger = Scene.funded(100, Check.MAX);
        if (fault <= 5) {
            Scene.install(ledger, 0, programWithFault(fault));
            ledger.call(0, 0, 0, 0, 0);
        } else {
            putWithFault(ledger, fault);
        }
        ledger.pay(0, 3, 10);
        check.due("submit", ledger.submit(), fault);
        check.due("count(1)", ledger.count(1), 0);
        check.due("balance(0)", ledger.balance(0), 100);
        check.due("balance(3)", ledger.balance(3), 0);
        check.due("submit again", ledger.submit(), Check.REFUSED);
        check.due("the next group begins at 0", ledger.pay(0, 3, 20), 0);
        check.due("and has no fault", ledger.submit(), 0);
        check.due("balance(3)", ledger.balance(3), 20);
    }

    private static void emptyDraft(Check check) {
        check.sentence("The DRAFT is empty: REFUSED.");
        GroupLedger ledger = Scene.funded(100, 100);
        String before = Scene.look(ledger);
        check.due("at first", ledger.submit(), Check.REFUSED);
        check.due("what it changed", Scene.look(ledger), before);
        ledger.pay(0, 1, 10);
        check.due("submit", ledger.submit(), 0);
        check.due("after a submit", ledger.submit(), Check.REFUSED);
        ledger.pay(0, 1, 10);
        ledger.discard();
        check.due("after a discard", ledger.submit(), Check.REFUSED);
        check.due("after a refused pay", ledger.pay(0, 6, 10), Check.REFUSED);
        check.due("there is none still", ledger.submit(), Check.REFUSED);
        check.due("groups without a fault", ledger.count(2), 1);
        check.due("groups with one", ledger.count(3), 0);
        check.due("balance", ledger.balance(0), 89);
    }

    private static void fullGroups(Check check) {
        check.sentence("CARRIES OUT the DRAFT, which is empty then (of 4 transactions, again and again)");
        GroupLedger ledger = Scene.funded(1000, 100);
        Scene.install(ledger, 0, "INDEX; LOG; " + Scene.APPROVE);
        for (int round = 0; round < 3; round++) {
            for (int place = 0; place < 4; place++) {
                check.due("place", ledger.call(0, 0, 0, 0, 0), place);
            }
            check.due("submit of four", ledger.submit(), 0);
        }
        check.due("balance after 12 fees", ledger.balance(0), 988);
        check.due("last place logged", ledger.logged(0), 3);
        check.due("logged in all", ledger.count(4), 12);
    }
}
