/** Promise 13: report. */
final class Promise13ReportTest {
    public static void main(String[] args) {
        Check check = new Check("promise 13, report");
        before(check);
        withoutFault(check);
        faultOfARun(check);
        faultOfNoRun(check);
        costsOfSeveralRuns(check);
        check.finish();
    }

    private static void dueReport(Check check, String of, GroupLedger ledger, int... want) {
        for (int what = 0; what < 4; what++) {
            check.due(of + ", report(" + what + ")", ledger.report(what), want[what]);
        }
    }

    private static void before(Check check) {
        GroupLedger ledger = Scene.funded(100);
        for (int what : new int[] {-1, 4, Check.MAX, Check.MIN_INT}) {
            check.due("report(" + what + ") before", ledger.report(what), Check.REFUSED);
        }
        ledger.submit();
        ledger.pay(0, 1, 10);
        ledger.discard();
        dueReport(check, "before", ledger, Check.NONE, Check.NONE, Check.NONE, Check.NONE);
        Scene.submitPayment(ledger, 0, 1, 10);
        check.due("report(4) after", ledger.report(4), Check.REFUSED);
        check.due("report(-1) after", ledger.report(-1), Check.REFUSED);
    }

    private static void withoutFault(Check check) {
        GroupLedger ledger = Scene.funded(100, 100);
        check.due("a payment", Scene.submitPayment(ledger, 0, 1, 10), 0);
        dueReport(check, "a payment", ledger, Check.NONE, Check.NONE, 0, 0);
        Scene.install(ledger, 0, "NUM 6; NUM 7; MUL; PUT 0; " + Scene.APPROVE);
        check.due("a call", Scene.submitCall(ledger, 0), 0);
        dueReport(check, "a call", ledger, Check.NONE, Check.NONE, 9, 6);
        ledger.submit();
        ledger.pay(0, 1, 10);
        ledger.pay(0, 6, 10);
        ledger.discard();
        dueReport(check, "after a refused submit", ledger, Check.NONE, Check.NONE, 9, 6);
    }

    private static void faultOfARun(Check check) {
        GroupLedger ledger = Scene.funded(100, 100);
        Scene.install(ledger, 0, "NUM 1; NOT; ASSERT; " + Scene.APPROVE);
        ledger.pay(0, 1, 10);
        ledger.call(0, 0, 0, 0, 0);
        check.due("fault 3", ledger.submit(), 3);
        dueReport(check, "fault 3", ledger, 1, 2, 3, 3);
        Scene.install(ledger, 0, "ADD");
        check.due("fault 1", Scene.submitCall(ledger, 0), 1);
        dueReport(check, "fault 1", ledger, 0, 0, 1, 1);
        Scene.install(ledger, 0, "SENDER; NOT");
        check.due("fault 2", Scene.submitCall(ledger, 0), 2);
        dueReport(check, "fault 2", ledger, 0, 1, 2, 2);
        Scene.install(ledger, 0, "GET 0; POP; GOTO 0");
        check.due("fault 4", Scene.submitCall(ledger, 0), 4);
        dueReport(check, "fault 4", ledger, 0, 0, 20, 12);
        Scene.install(ledger, 0, "NUM 3; GOTO 9");
        check.due("fault 5", Scene.submitCall(ledger, 0), 5);
        dueReport(check, "fault 5", ledger, 0, 9, 2, 2);
        check.due("a good one after it", Scene.submitPayment(ledger, 0, 1, 1), 0);
        dueReport(check, "a good one after it", ledger, Check.NONE, Check.NONE, 0, 0);
    }

    private static void faultOfNoRun(Check check) {
        GroupLedger ledger = Scene.funded(100, 100);
        Scene.install(ledger, 0, "NUM 0; RETURN");
        check.due("a fault of a run first", Scene.submitCall(ledger, 0), 3);
        check.due("report(1)", ledger.report(1), 1);
        Scene.install(ledger, 0, Scene.APPROVE);
        ledger.call(0, 0, 0, 0, 0);
        ledger.pay(0, 1, 99);
        check.due("fault 6 behind a run", ledger.submit(), 6);
        dueReport(check, "fault 6 behind a run", ledger, 1, Check.NONE, 2, 2);
        ledger.call(0, 0, 0, 0, 0);
        ledger.call(0, 0, 2, 0, 0);
        check.due("fault 8 behind a run", ledger.submit(), 8);
        dueReport(check, "fault 8 behind a run", ledger, 1, Check.NONE, 2, 2);
        check.due("fault 9", Scene.submitCall(ledger, 1), 9);
        dueReport(check, "fault 9", ledger, 0, Check.NONE, 0, 0);
        GroupLedger poor = Scene.funded(10);
        Scene.install(poor, 0, Scene.APPROVE);
        check.due("fault 10 after the run", Scene.submitCall(poor, 0), 10);
        dueReport(check, "fault 10 after the run", poor, 0, Check.NONE, 2, 2);
    }

    private static void costsOfSeveralRuns(Check check) {
        GroupLedger ledger = Scene.funded(100, 100);
        Scene.install(ledger, 0, "GET 0; RETURN");
        Scene.install(ledger, 1, "NUM 3; NUM 2; DIV; RETURN");
        ledger.call(0, 1, 0, 0, 0);
        ledger.pay(1, 0, 5);
        ledger.call(1, 0, 0, 0, 0);
        ledger.call(0, 1, 0, 0, 0);
        check.due("submit", ledger.submit(), 3);
        dueReport(check, "two runs, the second with a fault", ledger, 2, 1, 5 + 4, 4 + 2);
        ledger.call(0, 1, 0, 0, 0);
        ledger.call(0, 1, 0, 0, 0);
        check.due("submit of two", ledger.submit(), 0);
        dueReport(check, "two runs", ledger, Check.NONE, Check.NONE, 10, 8);
    }
}
