import java.util.ArrayList;
import java.util.Arrays;
import java.util.List;

/**
 * Runs of mixed calls, the same in every run of the test, on GroupLedger and on Model. No object is
 * used for more than the 512 calls of which the document speaks.
 */
final class ModelTest {
    private static final int RUNS = 4000;
    private static final int CALLS = 512;
    /** The calls of compareAll, and the most that one round of go makes. */
    private static final int LOOK = 101;
    private static final int ROUND = 40;

    private final Check check;
    private final GroupLedger ledger = new GroupLedger();
    private final Model model = new Model();
    private final int[] answersSeen;
    private final String name;
    private int used;
    private long seed;

    private ModelTest(Check check, int run, int[] answersSeen) {
        this.check = check;
        this.name = "run " + run + ": ";
        this.seed = 7919L * run + 17;
        this.answersSeen = answersSeen;
    }

    public static void main(String[] args) {
        Check check = new Check("model (all promises)");
        int[] answersSeen = new int[11];
        int most = 0;
        for (int run = 0; run < RUNS; run++) {
            ModelTest test = new ModelTest(check, run, answersSeen);
            test.go();
            most = Math.max(most, test.used);
        }
        System.out.println("model: submits by their answer " + Arrays.toString(answersSeen));
        for (int fault = 0; fault <= 10; fault++) {
            check.due("submits that ended with " + fault + " are many", answersSeen[fault] > 20, true);
        }
        check.due("no object is used for more than 512 calls", most <= CALLS, true);
        check.finish();
    }

    /** Each comparison is one call of the object. */
    private void due(String call, int got, int want) {
        used++;
        check.due(name + call, got, want);
    }

    /** A generator of its own, so that every machine makes the same calls. */
    private int below(int bound) {
        seed = seed * 6364136223846793005L + 1442695040888963407L;
        return (int) ((seed >>> 33) % bound);
    }

    private int number() {
        int[] edges = {0, 1, 2, 3, 9, 10, 65536, Check.MAX - 1, Check.MAX};
        return below(3) == 0 ? edges[below(edges.length)] : below(40);
    }

    /** The number that is meant, or now and then one that is mostly out of its range. */
    private int rarelyWrong(int meant) {
        int[] wrong = {-1, Check.MIN_INT, Check.MAX, 2, 3, 4, 6, 9, 31, 32};
        return below(50) == 0 ? wrong[below(wrong.length)] : meant;
    }

    private void go() {
        for (int account = 0; account < 6; account++) {
            mint(account, account == 5 ? below(12) : 60 + below(400));
        }
        if (below(4) == 0) {
            mint(4, Check.MAX - model.balance(4) - below(30));
        }
        int programs = 2 + below(3);
        for (int app = 0; app < programs; app++) {
            deployNewProgram(app);
        }
        while (used + ROUND + LOOK <= CALLS) {
            int choice = below(100);
            if (choice < 4) {
                mint(below(6), below(8) == 0 ? number() : below(60));
            } else if (choice < 12) {
                deployNewProgram(below(4));
            } else if (choice < 32) {
                pay(below(6), below(6), below(4) == 0 ? number() : below(30));
            } else if (choice < 68) {
                call(below(6), below(4), below(5) % 3);
            } else if (choice < 94) {
                submit();
            } else if (choice < 96) {
                due("discard", ledger.discard(), model.discard());
            } else {
                lookAnywhere();
            }
        }
        compareAll();
    }

    private void mint(int account, int amount) {
        int to = rarelyWrong(account);
        int n = rarelyWrong(amount);
        due("mint", ledger.mint(to, n), model.mint(to, n));
    }

    private void pay(int from, int to, int amount) {
        int sender = rarelyWrong(from);
        int receiver = rarelyWrong(to);
        int n = rarelyWrong(amount);
        due("pay", ledger.pay(sender, receiver, n), model.pay(sender, receiver, n));
    }

    private void call(int from, int app, int kind) {
        int sender = rarelyWrong(from);
        int of = rarelyWrong(app);
        int sort = rarelyWrong(kind);
        int x = rarelyWrong(number());
        int y = rarelyWrong(number());
        due("call", ledger.call(sender, of, sort, x, y), model.call(sender, of, sort, x, y));
    }

    private void submit() {
        int answer = model.submit();
        due("submit", ledger.submit(), answer);
        if (answer >= 0) {
            answersSeen[answer]++;
        }
        for (int what = 0; what < 4; what++) {
            due("report " + what, ledger.report(what), model.report(what));
        }
        lookAnywhere();
    }

    private void lookAnywhere() {
        int account = rarelyWrong(below(6));
        int app = rarelyWrong(below(4));
        int k = rarelyWrong(below(4));
        int local = rarelyWrong(below(2));
        int what = rarelyWrong(below(9));
        due("balance " + account, ledger.balance(account), model.balance(account));
        due("least " + account, ledger.least(account), model.least(account));
        due("global " + app + " " + k, ledger.global(app, k), model.global(app, k));
        int want = model.local(app, account, local);
        due("local " + app + " " + account + " " + local, ledger.local(app, account, local), want);
        due("count " + what, ledger.count(what), model.count(what));
        due("report " + k, ledger.report(k), model.report(k));
        due("logged " + what, ledger.logged(what), model.logged(what));
    }

    private void emit(String code, int a) {
        int number = rarelyWrong(Scene.CODES.indexOf(code));
        int operand = rarelyWrong(a);
        due("emit", ledger.emit(number, operand), model.emit(number, operand));
    }

    /** Mostly instructions whose VALUES are there, so that runs come far; sometimes any. */
    private void deployNewProgram(int app) {
        List<Character> sorts = new ArrayList<>();
        int length = below(3) == 0 ? below(29) : below(10);
        for (int n = 0; n < length; n++) {
            emitOne(sorts, n);
        }
        if (below(12) != 0) {
            emit("NUM", below(12) == 0 ? 0 : 1);
            emit("RETURN", 0);
        }
        int to = rarelyWrong(app);
        due("deploy", ledger.deploy(to), model.deploy(to));
    }

    private void emitOne(List<Character> sorts, int n) {
        String code = Scene.CODES.get(below(30));
        for (int tries = 0; tries < 20 && !fits(code, sorts); tries++) {
            code = Scene.CODES.get(below(30));
        }
        if (below(40) == 0) {
            code = Scene.CODES.get(below(31));
        }
        emit(code, operand(code, n));
        note(code, sorts);
    }

    private int operand(String code, int n) {
        return switch (code) {
            case "NUM" -> number();
            case "ACCOUNT" -> below(6);
            case "ARG", "LGET", "LPUT" -> below(2);
            case "GET", "PUT", "LOAD", "STORE", "PEER" -> below(4);
            case "GOTO", "IF" -> below(5) == 0 ? below(32) : n + 1;
            default -> 0;
        };
    }

    /** What an instruction takes, the top last, then what it puts: N, A, or V for either. */
    private static String effect(String code) {
        return switch (code) {
            case "NUM", "ARG", "SIZE", "INDEX", "GET", "LOAD" -> ":N";
            case "ACCOUNT", "SENDER" -> ":A";
            case "AMOUNT", "NOT", "PEER" -> "N:N";
            case "RECEIVER" -> "N:A";
            case "ADD", "SUB", "MUL", "DIV", "LESS" -> "NN:N";
            case "SAME" -> "VV:N";
            case "DUP" -> "V:VV";
            case "SWAP" -> "VV:VV";
            case "POP" -> "V:";
            case "IF", "ASSERT", "PUT", "STORE", "LOG", "RETURN" -> "N:";
            case "LGET", "BALANCE" -> "A:N";
            case "LPUT" -> "AN:";
            default -> ":";
        };
    }

    private static boolean fits(String code, List<Character> sorts) {
        String takes = effect(code).split(":", 2)[0];
        if (takes.length() > sorts.size()) {
            return false;
        }
        for (int n = 0; n < takes.length(); n++) {
            char there = sorts.get(sorts.size() - takes.length() + n);
            if (takes.charAt(n) != 'V' && takes.charAt(n) != there) {
                return false;
            }
        }
        return true;
    }

    private static void note(String code, List<Character> sorts) {
        String[] sides = effect(code).split(":", 2);
        List<Character> taken = new ArrayList<>();
        for (int n = 0; n < sides[0].length() && !sorts.isEmpty(); n++) {
            taken.add(sorts.remove(sorts.size() - 1));
        }
        for (int n = 0; n < sides[1].length(); n++) {
            boolean asTaken = sides[1].charAt(n) == 'V' && !taken.isEmpty();
            sorts.add(asTaken ? taken.get(n % taken.size()) : sides[1].charAt(n));
        }
    }

    private void compareAll() {
        for (int account = 0; account < 6; account++) {
            due("balance", ledger.balance(account), model.balance(account));
            due("least", ledger.least(account), model.least(account));
        }
        for (int app = 0; app < 4; app++) {
            for (int k = 0; k < 4; k++) {
                due("global", ledger.global(app, k), model.global(app, k));
            }
            for (int account = 0; account < 6; account++) {
                due("local 0", ledger.local(app, account, 0), model.local(app, account, 0));
                due("local 1", ledger.local(app, account, 1), model.local(app, account, 1));
            }
        }
        for (int what = 0; what < 4; what++) {
            due("report " + what, ledger.report(what), model.report(what));
        }
        for (int k = 0; k < 10; k++) {
            due("logged " + k, ledger.logged(k), model.logged(k));
        }
        for (int what = 0; what < 9; what++) {
            due("count " + what, ledger.count(what), model.count(what));
        }
    }
}
