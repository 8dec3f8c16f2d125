/** Promise 4: deploy. */
final class Promise04DeployTest {
    public static void main(String[] args) {
        Check check = new Check("promise 4, deploy");
        refusals(check);
        replacing(check);
        draftStaysApart(check);
        draftGroupMeetsTheNewProgram(check);
        check.finish();
    }

    private static void refusals(Check check) {
        GroupLedger ledger = new GroupLedger();
        check.due("deploy of an empty draft", ledger.deploy(0), Check.REFUSED);
        Scene.emit(ledger, Scene.APPROVE);
        for (int app : new int[] {-1, 4, Check.MAX, Check.MIN_INT}) {
            check.due("deploy(" + app + ")", ledger.deploy(app), Check.REFUSED);
        }
        check.due("the draft after refusals", ledger.count(0), 2);
        check.due("deploy(3)", ledger.deploy(3), 2);
        check.due("the draft is empty then", ledger.count(0), 0);
        check.due("count(8)", ledger.count(8), 2);
        check.due("deploy again", ledger.deploy(3), Check.REFUSED);
        check.due("the program stays", ledger.count(8), 2);
    }

    private static void replacing(Check check) {
        GroupLedger ledger = Scene.funded(100);
        String putAll = "NUM 4; PUT 0; NUM 5; PUT 1; NUM 6; PUT 2; NUM 7; PUT 3; " + Scene.APPROVE;
        Scene.install(ledger, 1, putAll);
        Scene.install(ledger, 2, "NUM 8; PUT 0; SENDER; NUM 9; LPUT 1; " + Scene.APPROVE);
        check.due("call of app 1", Scene.submitCall(ledger, 1), 0);
        check.due("opting into app 2", Scene.submitCall(ledger, 0, 2, 1), 0);
        check.due("global(1, 3)", ledger.global(1, 3), 7);
        check.due("a shorter program instead", Scene.emit(ledger, Scene.APPROVE), 2);
        check.due("deploy(1)", ledger.deploy(1), 2);
        check.due("count(6)", ledger.count(6), 2);
        for (int k = 0; k < 4; k++) {
            check.due("global(1, " + k + ") after deploy", ledger.global(1, k), 0);
        }
        check.due("globals of another app stay", ledger.global(2, 0), 8);
        Scene.install(ledger, 2, Scene.APPROVE);
        check.due("global(2, 0) after deploy", ledger.global(2, 0), 0);
        check.due("who is OPTED in stays so, with its NUMBERS", ledger.local(2, 0, 1), 9);
        check.due("least", ledger.least(0), 15);
        check.due("the new program runs", Scene.submitCall(ledger, 1), 0);
        check.due("its instructions", ledger.report(3), 2);
    }

    private static void draftStaysApart(Check check) {
        GroupLedger ledger = Scene.funded(100);
        Scene.install(ledger, 0, Scene.APPROVE);
        Scene.emit(ledger, "NUM 0; RETURN");
        check.due("a draft does not run", Scene.submitCall(ledger, 0), 0);
        check.due("nor is it lost by a submit", ledger.count(0), 2);
        check.due("deployed elsewhere", ledger.deploy(1), 2);
        check.due("app 0 as before", Scene.submitCall(ledger, 0), 0);
        check.due("app 1 has it", Scene.submitCall(ledger, 1), 3);
    }

    private static void draftGroupMeetsTheNewProgram(Check check) {
        GroupLedger ledger = Scene.funded(100);
        ledger.call(0, 0, 0, 0, 0);
        Scene.install(ledger, 0, "NUM 5; LOG; " + Scene.APPROVE);
        check.due("submit after deploy", ledger.submit(), 0);
        check.due("logged(0)", ledger.logged(0), 5);
    }
}
