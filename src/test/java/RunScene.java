/**
 * Runs one program in a group of four. A payment of 30 by 1 to 2 comes first, then a call of app 1
 * that ends with the SCRATCH NUMBERS 5, 0, 7, 0, then the call of the program, app 0, by 0 with 11
 * and 13, then a payment of 40 by 1 to 3. Account 0 is OPTED into app 0 with the local NUMBERS 21
 * and 22, account 5 into app 1 only.
 */
final class RunScene {
    static final int PLACE = 2;
    /** What the run of app 1 costs, which is also how many instructions it has. */
    static final int COST_BEFORE = 6;

    private final Check check;

    RunScene(Check check) {
        this.check = check;
    }

    static GroupLedger draft(String program) {
        GroupLedger ledger = Scene.funded(1000, 500, 60, 60, 0, 70);
        Scene.install(ledger, 0, "SENDER; NUM 21; LPUT 0; SENDER; NUM 22; LPUT 1; " + Scene.APPROVE);
        Scene.submitCall(ledger, 0, 0, 1);
        Scene.install(ledger, 1, "NUM 5; STORE 0; NUM 7; STORE 2; " + Scene.APPROVE);
        Scene.submitCall(ledger, 5, 1, 1);
        Scene.install(ledger, 0, program);
        ledger.pay(1, 2, 30);
        ledger.call(0, 1, 0, 0, 0);
        ledger.call(0, 0, 0, 11, 13);
        ledger.pay(1, 3, 40);
        return ledger;
    }

    /** The program, with "LOG; NUM 1; RETURN" behind it, ends well and has logged this last. */
    void logs(String program, int want) {
        GroupLedger ledger = draft(program + "; LOG; " + Scene.APPROVE);
        check.due(program + ": fault", ledger.submit(), 0);
        check.due(program + ": logged", ledger.logged(0), want);
    }

    /** The program has this fault at this instruction, and nothing of the group is left. */
    void faults(String program, int fault, int at) {
        GroupLedger ledger = draft(program);
        check.due(program + ": fault", ledger.submit(), fault);
        check.due(program + ": place", ledger.report(0), PLACE);
        check.due(program + ": instruction", ledger.report(1), at);
        check.due(program + ": balance(1)", ledger.balance(1), 500);
        check.due(program + ": NUMBERS logged", ledger.count(4), 0);
    }
}
