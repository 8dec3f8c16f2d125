import java.util.ArrayList;
import java.util.Arrays;
import java.util.List;

/** Long runs of mixed calls, the same in every run of the test, on GroupLedger and on Model. */
final class ModelTest {
    private static final int RUNS = 400;
    private static final int CALLS = 500;

    private final Check check;
    private final GroupLedger ledger = new GroupLedger();
    private final Model model = new Model();
    private final int[] faultsSeen;
    private final String name;
    private long seed;

    private ModelTest(Check check, int run, int[] faultsSeen) {
        this.check = check;
        this.name = "run " + run + ": ";
        this.seed = 7919L * run + 17;
        this.faultsSeen = faultsSeen;
    }

    public static void main(String[] args) {
        Check check = new Check("model");
        int[] faultsSeen = new int[11];
        for (int run = 0; run < RUNS; run++) {
            new ModelTest(check, run, faultsSeen).go();
        }
        System.out.println("model: submits by their answer " + Arrays.toString(faultsSeen));
        for (int fault = 0; fault <= 10; fault++) {
            check.due("submits that ended with " + fault + " are many", faultsSeen[fault] > 20, true);
        }
        check.finish();
    }

    /** A generator of its own, so that every machine makes the same calls. */
    private int below(int bound) {
        seed = seed * 6364136223846793005L + 1442695040888963407L;
        return (int) ((seed >>> 33) % bound);
    }

    private int number() {
        int[] edges = {0, 1, 2, 3, 9, 10, 65536, Check.MAX - 1, Check.MAX};
        return below(3) == 0 ? edges[below(edges.length)] : below(40);
    }

    private void go() {
        for (int account = 0; account < 6; account++) {
            mint(account, account == 5 ? below(12) : 60 + below(400));
        }
        if (below(4) == 0) {
            mint(4, Check.MAX - ledger.balance(4) - below(30));
        }
        for (int calls = 7; calls < CALLS; calls++) {
            int choice = below(100);
            if (choice < 4) {
                mint(below(6), below(8) == 0 ? number() : below(60));
            } else if (choice < 14) {
                deployNewProgram(below(4));
            } else if (choice < 34) {
                pay(below(6), below(6), below(4) == 0 ? number() : below(30));
            } else if (choice < 70) {
                call(below(6), below(4), below(5) % 3);
            } else if (choice < 98) {
                submit();
            } else {
                check.due(name + "discard", ledger.discard(), model.discard());
            }
        }
    }

    private void mint(int account, int amount) {
        check.due(name + "mint", ledger.mint(account, amount), model.mint(account, amount));
    }

    private void pay(int from, int to, int amount) {
        Model.Entry entry = new Model.Entry(true, from, to, amount, 0, 0, null);
        check.due(name + "pay", ledger.pay(from, to, amount), model.enter(entry));
    }

    private void call(int from, int app, int kind) {
        int x = number();
        int y = number();
        Model.Entry entry = new Model.Entry(false, from, 0, 0, app, kind, new int[] {x, y});
        check.due(name + "call", ledger.call(from, app, kind, x, y), model.enter(entry));
    }

    private void submit() {
        int fault = model.submit();
        check.due(name + "submit", ledger.submit(), fault);
        if (fault >= 0) {
            faultsSeen[fault]++;
        }
        compareAll();
    }

    private void emit(String code, int a) {
        check.due(name + "emit", ledger.emit(Scene.CODES.indexOf(code), a), model.emit(code, a));
    }

    /** Mostly instructions whose VALUES are there, so that runs come far; sometimes any. */
    private void deployNewProgram(int app) {
        List<Character> sorts = new ArrayList<>();
        int length = below(3) == 0 ? below(29) : below(10);
        for (int n = 0; n < length; n++) {
            emitOne(sorts, n);
        }
        if (below(12) != 0) {
            emit("NUM", below(12) == 0 ? 0 : 1);
            emit("RETURN", 0);
        }
        check.due(name + "deploy", ledger.deploy(app), model.deploy(app));
    }

    private void emitOne(List<Character> sorts, int n) {
        String code = Scene.CODES.get(below(30));
        for (int tries = 0; tries < 20 && !fits(code, sorts); tries++) {
            code = Scene.CODES.get(below(30));
        }
        if (below(40) == 0) {
            code = Scene.CODES.get(below(31));
        }
        emit(code, operand(code, n));
        note(code, sorts);
    }

    private int operand(String code, int n) {
        return switch (code) {
            case "NUM" -> number();
            case "ACCOUNT" -> below(6);
            case "ARG", "LGET", "LPUT" -> below(2);
            case "GET", "PUT", "LOAD", "STORE", "PEER" -> below(4);
            case "GOTO", "IF" -> below(5) == 0 ? below(32) : n + 1;
            default -> 0;
        };
    }

    /** What an instruction takes, the top last, then what it puts: N, A, or V for either. */
    private static String effect(String code) {
        return switch (code) {
            case "NUM", "ARG", "SIZE", "INDEX", "GET", "LOAD" -> ":N";
            case "ACCOUNT", "SENDER" -> ":A";
            case "AMOUNT", "NOT", "PEER" -> "N:N";
            case "RECEIVER" -> "N:A";
            case "ADD", "SUB", "MUL", "DIV", "LESS" -> "NN:N";
            case "SAME" -> "VV:N";
            case "DUP" -> "V:VV";
            case "SWAP" -> "VV:VV";
            case "POP" -> "V:";
            case "IF", "ASSERT", "PUT", "STORE", "LOG", "RETURN" -> "N:";
            case "LGET", "BALANCE" -> "A:N";
            case "LPUT" -> "AN:";
            default -> ":";
        };
    }

    private static boolean fits(String code, List<Character> sorts) {
        String takes = effect(code).split(":", 2)[0];
        if (takes.length() > sorts.size()) {
            return false;
        }
        for (int n = 0; n < takes.length(); n++) {
            char there = sorts.get(sorts.size() - takes.length() + n);
            if (takes.charAt(n) != 'V' && takes.charAt(n) != there) {
                return false;
            }
        }
        return true;
    }

    private static void note(String code, List<Character> sorts) {
        String[] sides = effect(code).split(":", 2);
        List<Character> taken = new ArrayList<>();
        for (int n = 0; n < sides[0].length() && !sorts.isEmpty(); n++) {
            taken.add(sorts.remove(sorts.size() - 1));
        }
        for (int n = 0; n < sides[1].length(); n++) {
            boolean asTaken = sides[1].charAt(n) == 'V' && !taken.isEmpty();
            sorts.add(asTaken ? taken.get(n % taken.size()) : sides[1].charAt(n));
        }
    }

    private void compareAll() {
        for (int account = 0; account < 6; account++) {
            check.due(name + "balance", ledger.balance(account), model.valueOf("balance " + account));
            check.due(name + "least", ledger.least(account), model.least(account));
        }
        for (int app = 0; app < 4; app++) {
            for (int k = 0; k < 4; k++) {
                check.due(name + "global", ledger.global(app, k), model.valueOf("global " + app + " " + k));
            }
            for (int account = 0; account < 6; account++) {
                check.due(name + "local 0", ledger.local(app, account, 0), model.local(app, account, 0));
                check.due(name + "local 1", ledger.local(app, account, 1), model.local(app, account, 1));
            }
        }
        for (int what = 0; what < 4; what++) {
            check.due(name + "report " + what, ledger.report(what), model.report(what));
        }
        for (int k = 0; k < 10; k++) {
            check.due(name + "logged " + k, ledger.logged(k), model.logged(k));
        }
        for (int what = 0; what < 9; what++) {
            check.due(name + "count " + what, ledger.count(what), model.count(what));
        }
    }
}
