/** Promise 15: count. */
final class Promise15CountTest {
    public static void main(String[] args) {
        Check check = new Check("promise 15, count");
        programDraft(check);
        draft(check);
        groupsWithoutFault(check);
        groupsWithFault(check);
        numbersLogged(check);
        programs(check);
        anotherWhat(check);
        check.finish();
    }

    private static void programDraft(Check check) {
        check.sentence("0: instructions in the program draft");
        GroupLedger ledger = new GroupLedger();
        for (int n = 0; n < 32; n++) {
            check.due("count(0)", ledger.count(0), n);
            ledger.emit(0, 1);
        }
        check.due("count(0), full", ledger.count(0), 32);
        ledger.emit(0, 1);
        check.due("count(0), after FULL", ledger.count(0), 32);
        ledger.deploy(0);
        check.due("count(0), after deploy", ledger.count(0), 0);
        ledger.emit(0, -1);
        check.due("count(0), after a refused emit", ledger.count(0), 0);
    }

    private static void draft(Check check) {
        check.sentence("1: transactions in the DRAFT");
        GroupLedger ledger = Scene.funded(100);
        for (int n = 0; n < 4; n++) {
            check.due("count(1)", ledger.count(1), n);
            if (n % 2 == 0) {
                ledger.pay(0, 1, 1);
            } else {
                ledger.call(0, 0, 0, 0, 0);
            }
        }
        check.due("count(1), full", ledger.count(1), 4);
        ledger.pay(0, 1, 1);
        check.due("count(1), after FULL", ledger.count(1), 4);
        ledger.submit();
        check.due("count(1), after submit", ledger.count(1), 0);
        ledger.pay(0, 1, 1);
        ledger.discard();
        check.due("count(1), after discard", ledger.count(1), 0);
    }

    private static void groupsWithoutFault(Check check) {
        check.sentence("2: groups without a fault");
        GroupLedger ledger = Scene.funded(200, 10);
        check.due("at first", ledger.count(2), 0);
        for (int n = 1; n <= 20; n++) {
            check.due("submit", Scene.submitPayment(ledger, 0, 1, 1), 0);
            check.due("submit of nothing", ledger.submit(), Check.REFUSED);
            check.due("submit with a fault", Scene.submitPayment(ledger, 5, 1, 1), 6);
            check.due("count(2)", ledger.count(2), n);
        }
    }

    private static void groupsWithFault(Check check) {
        check.sentence("3: groups with one");
        GroupLedger ledger = Scene.funded(200, 10);
        check.due("at first", ledger.count(3), 0);
        for (int n = 1; n <= 20; n++) {
            check.due("submit", Scene.submitPayment(ledger, 0, 1, 1), 0);
            check.due("submit of nothing", ledger.submit(), Check.REFUSED);
            check.due("submit with a fault", Scene.submitPayment(ledger, 5, 1, 1), 6);
            check.due("count(3)", ledger.count(3), n);
        }
    }

    private static void numbersLogged(Check check) {
        check.sentence("4: NUMBERS logged");
        GroupLedger ledger = Scene.funded(200);
        Scene.install(ledger, 0, "NUM 1; LOG; NUM 1; LOG; NUM 1; LOG; ARG 0; RETURN");
        check.due("at first", ledger.count(4), 0);
        for (int n = 1; n <= 20; n++) {
            ledger.call(0, 0, 0, 1, 0);
            check.due("submit", ledger.submit(), 0);
            ledger.call(0, 0, 0, 0, 0);
            check.due("submit with a fault", ledger.submit(), 3);
            check.due("count(4), more than are kept too", ledger.count(4), 3 * n);
        }
    }

    private static void programs(Check check) {
        check.sentence("5 .. 8: instructions of the program of app what - 5.");
        GroupLedger ledger = new GroupLedger();
        for (int app = 0; app < 4; app++) {
            check.due("none, count(" + (5 + app) + ")", ledger.count(5 + app), 0);
        }
        for (int app = 0; app < 4; app++) {
            Scene.install(ledger, app, "NUM 1; LOG; ".repeat(app + 1) + Scene.APPROVE);
        }
        Scene.emit(ledger, "NUM 1; LOG; POP");
        for (int app = 0; app < 4; app++) {
            check.due("count(" + (5 + app) + ")", ledger.count(5 + app), 2 * app + 4);
        }
        check.due("deploy", ledger.deploy(1), 3);
        check.due("count(6) then", ledger.count(6), 3);
    }

    private static void anotherWhat(Check check) {
        check.sentence("Else REFUSED.");
        GroupLedger ledger = Scene.funded(100);
        for (int what : new int[] {-1, 9, 10, Check.MAX, Check.MIN_INT}) {
            check.due("count(" + what + ")", ledger.count(what), Check.REFUSED);
        }
    }
}
