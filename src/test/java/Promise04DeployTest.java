/** Promise 4: deploy. */
final class Promise04DeployTest {
    private static final String PUT_ALL =
            "NUM 4; PUT 0; NUM 5; PUT 1; NUM 6; PUT 2; NUM 7; PUT 3; " + Scene.APPROVE;

    public static void main(String[] args) {
        Check check = new Check("promise 4, deploy");
        everyApp(check);
        appOutOfRange(check);
        inPlaceOfAnyOther(check);
        emptyThen(check);
        draftStaysApart(check);
        globalsBecomeZero(check);
        optedStays(check);
        emptyDraft(check);
        draftGroupMeetsTheNewProgram(check);
        check.finish();
    }

    private static void everyApp(Check check) {
        check.sentence("The program draft becomes the program of app 0 .. 3");
        GroupLedger ledger = Scene.funded(100);
        for (int app = 0; app < 4; app++) {
            Scene.emit(ledger, "NUM " + (50 + app) + "; LOG; " + Scene.APPROVE);
            check.due("deploy(" + app + ")", ledger.deploy(app), 4);
        }
        for (int app = 0; app < 4; app++) {
            check.due("call of app " + app, Scene.submitCall(ledger, app), 0);
            check.due("what it logged", ledger.logged(0), 50 + app);
        }
    }

    private static void appOutOfRange(Check check) {
        check.sentence("app 0 .. 3");
        GroupLedger ledger = new GroupLedger();
        Scene.emit(ledger, Scene.APPROVE);
        for (int app : new int[] {-1, 4, Check.MAX, Check.MIN_INT}) {
            check.due("deploy(" + app + ")", ledger.deploy(app), Check.REFUSED);
            check.due("the draft then", ledger.count(0), 2);
        }
        for (int app = 0; app < 4; app++) {
            check.due("count(" + (5 + app) + ")", ledger.count(5 + app), 0);
        }
    }

    private static void inPlaceOfAnyOther(Check check) {
        check.sentence("in place of any other");
        GroupLedger ledger = Scene.funded(100);
        Scene.install(ledger, 1, "NUM 1; LOG; NUM 2; LOG; " + Scene.APPROVE);
        Scene.install(ledger, 2, Scene.APPROVE);
        Scene.install(ledger, 1, "NUM 3; LOG");
        check.due("a shorter one: count(6)", ledger.count(6), 2);
        check.due("nothing is left of the longer one", Scene.submitCall(ledger, 1), 5);
        check.due("the place come to", ledger.report(1), 2);
        Scene.install(ledger, 1, "NUM 4; LOG; NUM 5; LOG; NUM 6; LOG; " + Scene.APPROVE);
        check.due("a longer one: count(6)", ledger.count(6), 8);
        check.due("it runs", Scene.submitCall(ledger, 1), 0);
        check.due("what it logged", ledger.logged(0), 6);
        check.due("another app's stays: count(7)", ledger.count(7), 2);
        check.due("and runs", Scene.submitCall(ledger, 2), 0);
    }

    private static void emptyThen(Check check) {
        check.sentence("and is empty then: how many instructions it has.");
        GroupLedger ledger = new GroupLedger();
        for (int size : new int[] {1, 2, 31, 32}) {
            for (int n = 0; n < size; n++) {
                ledger.emit(0, 1);
            }
            check.due("deploy of " + size, ledger.deploy(0), size);
            check.due("count(5)", ledger.count(5), size);
            check.due("the draft then", ledger.count(0), 0);
        }
        check.due("the next instruction's number", ledger.emit(0, 1), 0);
    }

    private static void draftStaysApart(Check check) {
        check.sentence("and is empty then (what is put there later is no part of the program)");
        GroupLedger ledger = Scene.funded(100);
        Scene.install(ledger, 0, Scene.APPROVE);
        Scene.emit(ledger, "NUM 0; RETURN");
        check.due("a draft does not run", Scene.submitCall(ledger, 0), 0);
        check.due("nor is it lost by a submit", ledger.count(0), 2);
        check.due("deployed elsewhere", ledger.deploy(1), 2);
        check.due("app 0 as before", Scene.submitCall(ledger, 0), 0);
        check.due("app 1 has it", Scene.submitCall(ledger, 1), 3);
    }

    private static void globalsBecomeZero(Check check) {
        check.sentence("The global NUMBERS become 0");
        GroupLedger ledger = Scene.funded(100);
        Scene.install(ledger, 1, PUT_ALL);
        Scene.install(ledger, 2, PUT_ALL);
        check.due("call of app 1", Scene.submitCall(ledger, 1), 0);
        check.due("call of app 2", Scene.submitCall(ledger, 2), 0);
        check.due("global(1, 3)", ledger.global(1, 3), 7);
        Scene.install(ledger, 1, "GET 3; LOG; " + Scene.APPROVE);
        for (int k = 0; k < 4; k++) {
            check.due("global(1, " + k + ")", ledger.global(1, k), 0);
            check.due("another app's, global(2, " + k + ")", ledger.global(2, k), 4 + k);
        }
        check.due("a run of the new one", Scene.submitCall(ledger, 1), 0);
        check.due("sees 0", ledger.logged(0), 0);
    }

    private static void optedStays(Check check) {
        check.sentence("who is OPTED in stays so.");
        GroupLedger ledger = Scene.funded(100, 100);
        Scene.install(ledger, 2, "SENDER; NUM 8; LPUT 0; SENDER; NUM 9; LPUT 1; " + Scene.APPROVE);
        check.due("opting in", Scene.submitCall(ledger, 0, 2, 1), 0);
        Scene.install(ledger, 2, Scene.APPROVE);
        check.due("local(2, 0, 0)", ledger.local(2, 0, 0), 8);
        check.due("local(2, 0, 1)", ledger.local(2, 0, 1), 9);
        check.due("one who was not", ledger.local(2, 1, 0), Check.NONE);
        check.due("least(0)", ledger.least(0), 15);
        check.due("opting in again", Scene.submitCall(ledger, 0, 2, 1), 8);
        check.due("closing out", Scene.submitCall(ledger, 0, 2, 2), 0);
    }

    private static void emptyDraft(Check check) {
        check.sentence("The draft is empty: REFUSED.");
        GroupLedger ledger = Scene.funded(100);
        check.due("deploy at first", ledger.deploy(0), Check.REFUSED);
        check.due("no program", ledger.count(5), 0);
        Scene.install(ledger, 3, PUT_ALL);
        check.due("a call", Scene.submitCall(ledger, 3), 0);
        check.due("deploy again", ledger.deploy(3), Check.REFUSED);
        check.due("the program stays", ledger.count(8), 10);
        check.due("its globals stay", ledger.global(3, 0), 4);
        check.due("and it runs", Scene.submitCall(ledger, 3), 0);
    }

    private static void draftGroupMeetsTheNewProgram(Check check) {
        check.sentence("The program draft becomes the program of app (a call put before it runs it too)");
        GroupLedger ledger = Scene.funded(100);
        ledger.call(0, 0, 0, 0, 0);
        Scene.install(ledger, 0, "NUM 5; LOG; " + Scene.APPROVE);
        check.due("the DRAFT stays", ledger.count(1), 1);
        check.due("submit after deploy", ledger.submit(), 0);
        check.due("logged(0)", ledger.logged(0), 5);
    }
}
