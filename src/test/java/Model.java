import java.math.BigInteger;
import java.util.ArrayList;
import java.util.HashMap;
import java.util.List;
import java.util.Map;

/**
 * The document told a second time, with the Java library and without care for room or speed: what
 * ModelTest compares GroupLedger with.
 */
final class Model {
    record Account(int number) {
    }

    record Line(String code, int a) {
    }

    record Entry(boolean payment, int from, int to, int amount, int app, int kind, int[] arguments) {
    }

    /** A fault leaves whatever stands open: the group's state is thrown away with it. */
    static final class Fault extends RuntimeException {
        private static final long serialVersionUID = 1L;
        final int number;

        Fault(int number) {
            this.number = number;
        }
    }

    /** NUMBERS by name, such as "balance 3", "global 0 1", "opted 2 5" and "local 2 5 1". */
    private Map<String, Integer> state = new HashMap<>();
    private List<Integer> logs = new ArrayList<>();
    private final Map<Integer, List<Line>> programs = new HashMap<>();
    private List<Line> lines = new ArrayList<>();
    private List<Entry> entries = new ArrayList<>();
    private Map<Integer, int[]> scratches = new HashMap<>();
    private int good;
    private int bad;
    private int budget;
    private Integer faultPlace;
    private Integer faultLine;
    private Integer spent;
    private Integer done;

    private int valueOf(String name) {
        return state.getOrDefault(name, 0);
    }

    private static boolean outside(int n, int highest) {
        return n < 0 || n > highest;
    }

    int mint(int account, int amount) {
        long sum = (long) valueOf("balance " + account) + amount;
        if (outside(account, 5) || amount < 0 || sum > Integer.MAX_VALUE) {
            return -1;
        }
        state.put("balance " + account, (int) sum);
        return (int) sum;
    }

    private static boolean operandFits(String code, int a) {
        return switch (code) {
            case "NUM" -> a >= 0;
            case "ACCOUNT" -> !outside(a, 5);
            case "ARG", "LGET", "LPUT" -> !outside(a, 1);
            case "GOTO", "IF" -> !outside(a, 31);
            case "GET", "PUT", "LOAD", "STORE", "PEER" -> !outside(a, 3);
            default -> true;
        };
    }

    int emit(int code, int a) {
        if (outside(code, 30) || !operandFits(Scene.CODES.get(code), a)) {
            return -1;
        }
        if (lines.size() == 32) {
            return -2;
        }
        lines.add(new Line(Scene.CODES.get(code), a));
        return lines.size() - 1;
    }

    int deploy(int app) {
        if (outside(app, 3) || lines.isEmpty()) {
            return -1;
        }
        programs.put(app, lines);
        lines = new ArrayList<>();
        state.keySet().removeIf(name -> name.startsWith("global " + app));
        return programs.get(app).size();
    }

    int pay(int from, int to, int amount) {
        boolean wrong = outside(from, 5) || outside(to, 5) || amount < 0;
        return wrong ? -1 : enter(new Entry(true, from, to, amount, 0, 0, null));
    }

    int call(int from, int app, int kind, int x, int y) {
        boolean wrong = outside(from, 5) || outside(app, 3) || outside(kind, 2) || x < 0 || y < 0;
        return wrong ? -1 : enter(new Entry(false, from, 0, 0, app, kind, new int[] {x, y}));
    }

    private int enter(Entry entry) {
        if (entries.size() == 4) {
            return -2;
        }
        entries.add(entry);
        return entries.size() - 1;
    }

    int discard() {
        int size = entries.size();
        entries = new ArrayList<>();
        return size;
    }

    int submit() {
        if (entries.isEmpty()) {
            return -1;
        }
        Map<String, Integer> stateBefore = new HashMap<>(state);
        List<Integer> logsBefore = new ArrayList<>(logs);
        scratches = new HashMap<>();
        faultPlace = null;
        faultLine = null;
        spent = 0;
        done = 0;
        budget = 0;
        for (Entry entry : entries) {
            budget += entry.payment() ? 0 : 20;
        }
        int place = 0;
        int answer = 0;
        try {
            for (; place < entries.size(); place++) {
                carryOut(place);
            }
            good++;
        } catch (Fault fault) {
            answer = fault.number;
            faultPlace = place;
            state = stateBefore;
            logs = logsBefore;
            bad++;
        }
        entries = new ArrayList<>();
        return answer;
    }

    int balance(int account) {
        return outside(account, 5) ? -1 : valueOf("balance " + account);
    }

    int global(int app, int k) {
        return outside(app, 3) || outside(k, 3) ? -1 : valueOf("global " + app + " " + k);
    }

    int least(int account) {
        return outside(account, 5) ? -1 : leastOf(account);
    }

    private int leastOf(int account) {
        int apps = 0;
        for (int app = 0; app < 4; app++) {
            apps += valueOf("opted " + app + " " + account);
        }
        return apps == 0 && valueOf("balance " + account) == 0 ? 0 : 10 + 5 * apps;
    }

    int local(int app, int account, int k) {
        if (outside(app, 3) || outside(account, 5) || outside(k, 1)) {
            return -1;
        }
        boolean opted = valueOf("opted " + app + " " + account) == 1;
        return opted ? valueOf("local " + app + " " + account + " " + k) : -3;
    }

    int report(int what) {
        if (outside(what, 3)) {
            return -1;
        }
        Integer answer = new Integer[] {faultPlace, faultLine, spent, done}[what];
        return answer == null ? -3 : answer;
    }

    int logged(int k) {
        return !outside(k, 7) && k < logs.size() ? logs.get(logs.size() - 1 - k) : -3;
    }

    int count(int what) {
        if (outside(what, 8)) {
            return -1;
        }
        int[] first = {lines.size(), entries.size(), good, bad, logs.size()};
        return what < 5 ? first[what] : programs.getOrDefault(what - 5, List.of()).size();
    }

    private static void must(boolean holds, int fault) {
        if (!holds) {
            throw new Fault(fault);
        }
    }

    private void add(String name, int amount) {
        state.merge(name, amount, Integer::sum);
    }

    private void carryOut(int place) {
        Entry entry = entries.get(place);
        String sender = "balance " + entry.from();
        must(valueOf(sender) >= 1, 6);
        add(sender, -1);
        if (entry.payment()) {
            String receiver = "balance " + entry.to();
            must(valueOf(sender) >= entry.amount(), 6);
            boolean fits = (long) valueOf(receiver) + entry.amount() <= Integer.MAX_VALUE;
            must(fits || entry.from() == entry.to(), 7);
            if (entry.from() != entry.to()) {
                add(sender, -entry.amount());
                add(receiver, entry.amount());
            }
        } else {
            carryOutCall(entry, place);
        }
        must(valueOf(sender) >= leastOf(entry.from()), 10);
        must(!entry.payment() || valueOf("balance " + entry.to()) >= leastOf(entry.to()), 10);
    }

    private void carryOutCall(Entry entry, int place) {
        String opted = "opted " + entry.app() + " " + entry.from();
        must(entry.kind() != 1 || valueOf(opted) == 0, 8);
        must(entry.kind() != 2 || valueOf(opted) == 1, 8);
        if (entry.kind() == 1) {
            state.put(opted, 1);
            state.put("local " + entry.app() + " " + entry.from() + " 0", 0);
            state.put("local " + entry.app() + " " + entry.from() + " 1", 0);
        }
        must(programs.containsKey(entry.app()), 9);
        new Run(entry, place).toTheEnd(programs.get(entry.app()));
        if (entry.kind() == 2) {
            state.put(opted, 0);
        }
    }

    private final class Run {
        private final Entry entry;
        private final int place;
        private final List<Object> stack = new ArrayList<>();
        private final int[] scratch = new int[4];
        private int next;

        Run(Entry entry, int place) {
            this.entry = entry;
            this.place = place;
            scratches.put(place, scratch);
        }

        void toTheEnd(List<Line> program) {
            int at = 0;
            try {
                boolean ended = false;
                while (!ended) {
                    at = next;
                    must(at < program.size(), 5);
                    Line line = program.get(at);
                    int cost = costOf(line.code());
                    must(cost <= budget, 4);
                    budget -= cost;
                    spent += cost;
                    done++;
                    next = at + 1;
                    act(line);
                    must(stack.size() <= 8, 1);
                    ended = line.code().equals("RETURN");
                }
            } catch (Fault fault) {
                faultLine = at;
                throw fault;
            }
        }

        private static int costOf(String code) {
            return switch (code) {
                case "MUL", "DIV" -> 2;
                case "GET", "PUT", "LGET", "LPUT", "BALANCE" -> 3;
                default -> 1;
            };
        }

        private void lacks(int taken) {
            must(stack.size() >= taken, 1);
        }

        private Object value() {
            lacks(1);
            return stack.remove(stack.size() - 1);
        }

        private int number() {
            Object value = value();
            must(value instanceof Integer, 2);
            return (Integer) value;
        }

        private int account() {
            Object value = value();
            must(value instanceof Account, 2);
            return ((Account) value).number();
        }

        private void putNumber(BigInteger number) {
            must(number.signum() >= 0 && number.bitLength() <= 31, 3);
            stack.add(number.intValue());
        }

        private void putTruth(boolean truth) {
            stack.add(truth ? 1 : 0);
        }

        private Entry payment(int i) {
            must(i < entries.size() && entries.get(i).payment(), 3);
            return entries.get(i);
        }

        private String localName(int account, int k) {
            must(valueOf("opted " + entry.app() + " " + account) == 1, 3);
            return "local " + entry.app() + " " + account + " " + k;
        }

        private int peer(int i, int k) {
            must(i < place && !entries.get(i).payment(), 3);
            return scratches.get(i)[k];
        }

        private void act(Line line) {
            int a = line.a();
            switch (line.code()) {
                case "NUM" -> stack.add(a);
                case "ACCOUNT" -> stack.add(new Account(a));
                case "ARG" -> stack.add(entry.arguments()[a]);
                case "SENDER" -> stack.add(new Account(entry.from()));
                case "SIZE" -> stack.add(entries.size());
                case "INDEX" -> stack.add(place);
                case "AMOUNT" -> stack.add(payment(number()).amount());
                case "RECEIVER" -> stack.add(new Account(payment(number()).to()));
                case "NOT" -> putTruth(number() == 0);
                case "POP" -> value();
                case "GOTO" -> next = a;
                case "IF" -> next = number() == 0 ? next : a;
                case "ASSERT", "RETURN" -> must(number() != 0, 3);
                case "GET" -> stack.add(valueOf("global " + entry.app() + " " + a));
                case "PUT" -> state.put("global " + entry.app() + " " + a, number());
                case "LGET" -> stack.add(valueOf(localName(account(), a)));
                case "BALANCE" -> stack.add(valueOf("balance " + account()));
                case "LOAD" -> stack.add(scratch[a]);
                case "STORE" -> scratch[a] = number();
                case "PEER" -> stack.add(peer(number(), a));
                case "LOG" -> logs.add(number());
                case "DUP" -> {
                    Object value = value();
                    stack.add(value);
                    stack.add(value);
                }
                default -> actOnTwo(line.code(), a);
            }
        }

        private void actOnTwo(String code, int a) {
            lacks(2);
            if (code.equals("SAME")) {
                putTruth(value().equals(value()));
            } else if (code.equals("SWAP")) {
                Object top = value();
                stack.add(stack.size() - 1, top);
            } else if (code.equals("LPUT")) {
                int number = number();
                state.put(localName(account(), a), number);
            } else {
                BigInteger y = BigInteger.valueOf(number());
                BigInteger x = BigInteger.valueOf(number());
                must(!code.equals("DIV") || y.signum() != 0, 3);
                switch (code) {
                    case "ADD" -> putNumber(x.add(y));
                    case "SUB" -> putNumber(x.subtract(y));
                    case "MUL" -> putNumber(x.multiply(y));
                    case "DIV" -> putNumber(x.divide(y));
                    default -> putTruth(x.compareTo(y) < 0);
                }
            }
        }
    }
}
