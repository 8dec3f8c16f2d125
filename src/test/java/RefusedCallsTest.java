import java.util.ArrayList;
import java.util.List;
import java.util.function.ToIntFunction;

/**
 * The section "Terms", for promises 2 to 15: "A refused call changes nothing. Numbers out of their
 * ranges are REFUSED in every call." Each call is made on an object in use, whose drafts are empty,
 * begun or full, beside a twin on which it is not made; then both must look alike and go on alike.
 */
final class RefusedCallsTest {
    private static final int EMPTY = 0;
    private static final int BEGUN = 1;
    private static final int FULL_DRAFTS = 2;

    private record Call(String name, ToIntFunction<GroupLedger> made) {
    }

    private final Check check = new Check("refused calls (Terms; promises 2 to 15)");

    public static void main(String[] args) {
        RefusedCallsTest test = new RefusedCallsTest();
        for (Call call : outOfRange()) {
            test.check.sentence("Numbers out of their ranges are REFUSED in every call: " + call.name());
            for (int drafts = EMPTY; drafts <= FULL_DRAFTS; drafts++) {
                test.dueAndNothingChanged(call, drafts, Check.REFUSED);
            }
        }
        test.refusedByState();
        test.full();
        test.lookingChangesNothing();
        test.check.finish();
    }

    private static int[] outside(int highest) {
        return highest == Check.MAX
                ? new int[] {-1, Check.MIN_INT}
                : new int[] {-1, highest + 1, Check.MIN_INT, Check.MAX};
    }

    private static List<Call> outOfRange() {
        List<Call> calls = new ArrayList<>();
        for (int n : outside(5)) {
            calls.add(new Call("promise 2, mint(" + n + ", 1)", x -> x.mint(n, 1)));
            calls.add(new Call("promise 5, pay(" + n + ", 1, 1)", x -> x.pay(n, 1, 1)));
            calls.add(new Call("promise 5, pay(1, " + n + ", 1)", x -> x.pay(1, n, 1)));
            calls.add(new Call("promise 6, call(" + n + ", 0, 0, 0, 0)", x -> x.call(n, 0, 0, 0, 0)));
            calls.add(new Call("promise 9, balance(" + n + ")", x -> x.balance(n)));
            calls.add(new Call("promise 11, local(0, " + n + ", 0)", x -> x.local(0, n, 0)));
            calls.add(new Call("promise 12, least(" + n + ")", x -> x.least(n)));
        }
        for (int n : outside(3)) {
            calls.add(new Call("promise 4, deploy(" + n + ")", x -> x.deploy(n)));
            calls.add(new Call("promise 6, call(0, " + n + ", 0, 0, 0)", x -> x.call(0, n, 0, 0, 0)));
            calls.add(new Call("promise 10, global(" + n + ", 0)", x -> x.global(n, 0)));
            calls.add(new Call("promise 10, global(0, " + n + ")", x -> x.global(0, n)));
            calls.add(new Call("promise 11, local(" + n + ", 0, 0)", x -> x.local(n, 0, 0)));
            calls.add(new Call("promise 13, report(" + n + ")", x -> x.report(n)));
        }
        for (int n : outside(Check.MAX)) {
            calls.add(new Call("promise 2, mint(0, " + n + ")", x -> x.mint(0, n)));
            calls.add(new Call("promise 5, pay(0, 1, " + n + ")", x -> x.pay(0, 1, n)));
            calls.add(new Call("promise 6, call(0, 0, 0, " + n + ", 0)", x -> x.call(0, 0, 0, n, 0)));
            calls.add(new Call("promise 6, call(0, 0, 0, 0, " + n + ")", x -> x.call(0, 0, 0, 0, n)));
        }
        for (int n : outside(2)) {
            calls.add(new Call("promise 6, call(0, 0, " + n + ", 0, 0)", x -> x.call(0, 0, n, 0, 0)));
        }
        for (int n : outside(1)) {
            calls.add(new Call("promise 11, local(0, 0, " + n + ")", x -> x.local(0, 0, n)));
            calls.add(new Call("promise 11, local(0, 1, " + n + ")", x -> x.local(0, 1, n)));
        }
        for (int n : outside(8)) {
            calls.add(new Call("promise 15, count(" + n + ")", x -> x.count(n)));
        }
        addEmits(calls);
        return calls;
    }

    private static void addEmits(List<Call> calls) {
        for (int n : outside(30)) {
            calls.add(new Call("promise 3, emit(" + n + ", 0)", x -> x.emit(n, 0)));
        }
        int[][] codesAndHighest = {{0, Check.MAX}, {1, 5}, {2, 1}, {18, 31}, {19, 31}, {21, 3}, {22, 3}, {23, 1},
            {24, 1}, {26, 3}, {27, 3}, {28, 3}};
        for (int[] row : codesAndHighest) {
            for (int n : outside(row[1])) {
                calls.add(new Call("promise 3, emit(" + row[0] + ", " + n + ")", x -> x.emit(row[0], n)));
            }
        }
    }

    /** An object in use: every sort of state is there, and the last submit had a fault. */
    private static GroupLedger inUse(int drafts) {
        GroupLedger ledger = Scene.funded(200, 100, 30, 0, 0, Check.MAX);
        Scene.install(ledger, 0, "ARG 0; LOG; ARG 0; PUT 1; SENDER; ARG 1; LPUT 1; " + Scene.APPROVE);
        ledger.call(0, 0, 1, 41, 42);
        ledger.pay(1, 2, 5);
        ledger.submit();
        ledger.pay(0, 1, 3);
        ledger.call(0, 0, 2, 43, 44);
        ledger.call(1, 0, 0, 45, 46);
        ledger.submit();
        if (drafts == BEGUN) {
            Scene.emit(ledger, "NUM 6; LOG; " + Scene.APPROVE);
            ledger.pay(0, 1, 7);
            ledger.call(0, 0, 0, 47, 48);
        } else if (drafts == FULL_DRAFTS) {
            Scene.emit(ledger, "NUM 6; LOG; ".repeat(15) + Scene.APPROVE);
            ledger.pay(0, 1, 7);
            ledger.call(0, 0, 0, 47, 48);
            ledger.pay(1, 2, 9);
            ledger.call(0, 0, 0, 49, 50);
        }
        return ledger;
    }

    /** What is seen after the drafts have been used, which shows what stood in them. */
    private static String goOn(GroupLedger ledger) {
        StringBuilder seen = new StringBuilder();
        seen.append(" pay ").append(ledger.pay(0, 3, 11));
        seen.append(" emit ").append(ledger.emit(17, 0));
        seen.append(" submit ").append(ledger.submit());
        seen.append(" deploy ").append(ledger.deploy(2));
        ledger.call(0, 2, 0, 0, 0);
        ledger.call(0, 0, 0, 51, 52);
        seen.append(" submit ").append(ledger.submit());
        return seen.append(Scene.look(ledger)).toString();
    }

    private void dueAndNothingChanged(Call call, int drafts, int want) {
        GroupLedger ledger = inUse(drafts);
        GroupLedger twin = inUse(drafts);
        String of = new String[] {"empty", "begun", "full"}[drafts] + " drafts, " + call.name();
        check.due(of, call.made().applyAsInt(ledger), want);
        check.due(of + ": what is seen", Scene.look(ledger), Scene.look(twin));
        check.due(of + ": what comes after", goOn(ledger), goOn(twin));
    }

    private void refusedByState() {
        check.sentence("A refused call changes nothing: promise 2, mint above MAX");
        for (int drafts = EMPTY; drafts <= FULL_DRAFTS; drafts++) {
            dueAndNothingChanged(new Call("mint(5, 1)", x -> x.mint(5, 1)), drafts, Check.REFUSED);
            dueAndNothingChanged(new Call("mint(0, MAX)", x -> x.mint(0, Check.MAX)), drafts, Check.REFUSED);
        }
        check.sentence("A refused call changes nothing: promise 4, deploy of an empty draft");
        for (int app = 0; app < 4; app++) {
            int to = app;
            dueAndNothingChanged(new Call("deploy(" + to + ")", x -> x.deploy(to)), EMPTY, Check.REFUSED);
        }
        check.sentence("A refused call changes nothing: promise 7, submit of an empty DRAFT");
        dueAndNothingChanged(new Call("submit()", GroupLedger::submit), EMPTY, Check.REFUSED);
    }

    private void full() {
        check.sentence("32 there: FULL. (promise 3, and nothing changes)");
        for (int code = 0; code <= 30; code++) {
            int put = code;
            dueAndNothingChanged(new Call("emit(" + put + ", 0)", x -> x.emit(put, 0)), FULL_DRAFTS, Check.FULL);
        }
        check.sentence("4 there: FULL. (promise 5, and nothing changes)");
        dueAndNothingChanged(new Call("pay(2, 3, 1)", x -> x.pay(2, 3, 1)), FULL_DRAFTS, Check.FULL);
        check.sentence("4 there: FULL. (promise 6, and nothing changes)");
        dueAndNothingChanged(new Call("call(2, 1, 1, 1, 1)", x -> x.call(2, 1, 1, 1, 1)), FULL_DRAFTS, Check.FULL);
    }

    private void lookingChangesNothing() {
        check.sentence("Promises 9 to 15: looking changes nothing");
        for (int drafts = EMPTY; drafts <= FULL_DRAFTS; drafts++) {
            GroupLedger ledger = inUse(drafts);
            String first = Scene.look(ledger);
            check.due("a second look", Scene.look(ledger), first);
            check.due("what comes after", goOn(ledger), goOn(inUse(drafts)));
        }
    }
}
