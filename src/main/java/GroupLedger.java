/**
 * A ledger of accounts and small programs. Transactions are put into a group, which is carried
 * out wholly or not at all; programs run on a typed stack, with a budget that the calls of a
 * group share.
 */
public final class GroupLedger {
    public static final int REFUSED = -1;
    public static final int FULL = -2;
    public static final int NONE = -3;

    private static final int MAX = 2147483647;
    private static final int ACCOUNTS = 6;
    private static final int APPS = 4;
    private static final int GLOBALS = 4;
    private static final int LOCALS = 2;
    private static final int SCRATCHES = 4;
    private static final int PROGRAM_LIMIT = 32;
    private static final int STACK_LIMIT = 8;
    private static final int GROUP_LIMIT = 4;
    private static final int LOGS_KEPT = 8;

    private static final int FEE = 1;
    private static final int BUDGET_OF_A_CALL = 20;
    private static final int LEAST_IN_USE = 10;
    private static final int LEAST_OF_AN_APP = 5;

    private static final int KINDS = 3;
    private static final int OPTING_IN = 1;
    private static final int CLOSING_OUT = 2;

    private static final int NO_FAULT = 0;
    private static final int STACK_FAULT = 1;
    private static final int SORT_FAULT = 2;
    private static final int MUST_FAULT = 3;
    private static final int BUDGET_FAULT = 4;
    private static final int PLACE_FAULT = 5;
    private static final int FUNDS_FAULT = 6;
    private static final int ABOVE_MAX_FAULT = 7;
    private static final int OPTED_FAULT = 8;
    private static final int PROGRAM_FAULT = 9;
    private static final int LEAST_FAULT = 10;

    /** The sorts of VALUES are bits, so that one mask can say which sorts an instruction takes. */
    private static final int NOTHING = 0;
    private static final int A_NUMBER = 1;
    private static final int AN_ACCOUNT = 2;
    private static final int EITHER = 3;

    private static final int ANY_INT = -1;

    private static final Op[] OPS = Op.values();

    private final Books books;
    private final Books booksBefore;
    private final Program programDraft;
    private final Program[] programs;
    private final Group draft;
    private final Machine machine;
    private int faultPlace;
    private int groupsWithoutFault;
    private int groupsWithFault;

    public GroupLedger() {
        books = new Books();
        booksBefore = new Books();
        programDraft = new Program();
        programs = new Program[APPS];
        for (int app = 0; app < APPS; app++) {
            programs[app] = new Program();
        }
        draft = new Group();
        machine = new Machine(books, draft);
        faultPlace = NONE;
    }

    public int mint(int account, int amount) {
        if (!isBelow(account, ACCOUNTS) || amount < 0 || !books.hasRoomFor(account, amount)) {
            return REFUSED;
        }
        books.balances[account] += amount;
        return books.balances[account];
    }

    public int emit(int code, int a) {
        if (!isBelow(code, OPS.length) || !OPS[code].allows(a)) {
            return REFUSED;
        }
        if (programDraft.size >= PROGRAM_LIMIT) {
            return FULL;
        }
        return programDraft.append(code, a);
    }

    public int deploy(int app) {
        if (!isBelow(app, APPS) || programDraft.size == 0) {
            return REFUSED;
        }
        programs[app].copyFrom(programDraft);
        programDraft.size = 0;
        books.clearGlobals(app);
        return programs[app].size;
    }

    public int pay(int from, int to, int amount) {
        if (!isBelow(from, ACCOUNTS) || !isBelow(to, ACCOUNTS) || amount < 0) {
            return REFUSED;
        }
        if (draft.size >= GROUP_LIMIT) {
            return FULL;
        }
        draft.transactions[draft.size].becomePayment(from, to, amount);
        return draft.size++;
    }

    public int call(int from, int app, int kind, int x, int y) {
        if (!isBelow(from, ACCOUNTS) || !isBelow(app, APPS) || !isBelow(kind, KINDS)
                || x < 0 || y < 0) {
            return REFUSED;
        }
        if (draft.size >= GROUP_LIMIT) {
            return FULL;
        }
        draft.transactions[draft.size].becomeCall(from, app, kind, x, y);
        return draft.size++;
    }

    public int submit() {
        if (draft.size == 0) {
            return REFUSED;
        }
        booksBefore.copyFrom(books);
        machine.prepare();
        faultPlace = NONE;
        int fault = NO_FAULT;
        for (int place = 0; place < draft.size && fault == NO_FAULT; place++) {
            fault = carryOut(place);
            if (fault != NO_FAULT) {
                faultPlace = place;
            }
        }
        if (fault == NO_FAULT) {
            groupsWithoutFault++;
        } else {
            books.copyFrom(booksBefore);
            groupsWithFault++;
        }
        draft.size = 0;
        return fault;
    }

    public int discard() {
        int had = draft.size;
        draft.size = 0;
        return had;
    }

    public int balance(int account) {
        return isBelow(account, ACCOUNTS) ? books.balances[account] : REFUSED;
    }

    public int global(int app, int k) {
        if (!isBelow(app, APPS) || !isBelow(k, GLOBALS)) {
            return REFUSED;
        }
        return books.globals[app][k];
    }

    public int local(int app, int account, int k) {
        if (!isBelow(app, APPS) || !isBelow(account, ACCOUNTS) || !isBelow(k, LOCALS)) {
            return REFUSED;
        }
        return books.isOpted(app, account) ? books.locals[app][account * LOCALS + k] : NONE;
    }

    public int least(int account) {
        return isBelow(account, ACCOUNTS) ? books.leastOf(account) : REFUSED;
    }

    public int report(int what) {
        boolean nothingSubmitted = groupsWithoutFault + groupsWithFault == 0;
        switch (what) {
            case 0:
                return faultPlace;
            case 1:
                return machine.faultInstruction;
            case 2:
                return nothingSubmitted ? NONE : machine.spent;
            case 3:
                return nothingSubmitted ? NONE : machine.done;
            default:
                return REFUSED;
        }
    }

    public int logged(int k) {
        // The document names no range for k: where no NUMBER is, below 0 too, there is NONE.
        return k >= 0 && k < LOGS_KEPT && k < books.logTotal ? books.loggedBack(k) : NONE;
    }

    public int count(int what) {
        switch (what) {
            case 0:
                return programDraft.size;
            case 1:
                return draft.size;
            case 2:
                return groupsWithoutFault;
            case 3:
                return groupsWithFault;
            case 4:
                return books.logTotal;
            case 5:
            case 6:
            case 7:
            case 8:
                return programs[what - 5].size;
            default:
                return REFUSED;
        }
    }

    private static boolean isBelow(int n, int limit) {
        return n >= 0 && n < limit;
    }

    private int carryOut(int place) {
        Transaction now = draft.transactions[place];
        if (books.balances[now.from] < FEE) {
            return FUNDS_FAULT;
        }
        books.balances[now.from] -= FEE;
        int fault = now.isPayment ? carryOutPayment(now) : carryOutCall(now, place);
        if (fault != NO_FAULT) {
            return fault;
        }
        boolean tooLow = books.isBelowLeast(now.from)
                || (now.isPayment && books.isBelowLeast(now.to));
        return tooLow ? LEAST_FAULT : NO_FAULT;
    }

    private int carryOutPayment(Transaction payment) {
        if (books.balances[payment.from] < payment.amount) {
            return FUNDS_FAULT;
        }
        // The sender's side goes first: a payment to oneself can then never come above MAX.
        books.balances[payment.from] -= payment.amount;
        if (!books.hasRoomFor(payment.to, payment.amount)) {
            return ABOVE_MAX_FAULT;
        }
        books.balances[payment.to] += payment.amount;
        return NO_FAULT;
    }

    private int carryOutCall(Transaction called, int place) {
        boolean opted = books.isOpted(called.app, called.from);
        if ((called.kind == OPTING_IN && opted) || (called.kind == CLOSING_OUT && !opted)) {
            return OPTED_FAULT;
        }
        if (called.kind == OPTING_IN) {
            books.optIn(called.app, called.from);
        }
        Program program = programs[called.app];
        if (program.size == 0) {
            return PROGRAM_FAULT;
        }
        int fault = machine.run(program, place);
        if (called.kind == CLOSING_OUT) {
            books.optOut(called.app, called.from);
        }
        return fault;
    }

    /** The instructions, in the order of their codes. */
    private enum Op {
        NUM(1, MAX, NOTHING, NOTHING),
        ACCOUNT(1, ACCOUNTS - 1, NOTHING, NOTHING),
        ARG(1, 1, NOTHING, NOTHING),
        SENDER(1, ANY_INT, NOTHING, NOTHING),
        SIZE(1, ANY_INT, NOTHING, NOTHING),
        INDEX(1, ANY_INT, NOTHING, NOTHING),
        AMOUNT(1, ANY_INT, NOTHING, A_NUMBER),
        RECEIVER(1, ANY_INT, NOTHING, A_NUMBER),
        ADD(1, ANY_INT, A_NUMBER, A_NUMBER),
        SUB(1, ANY_INT, A_NUMBER, A_NUMBER),
        MUL(2, ANY_INT, A_NUMBER, A_NUMBER),
        DIV(2, ANY_INT, A_NUMBER, A_NUMBER),
        LESS(1, ANY_INT, A_NUMBER, A_NUMBER),
        SAME(1, ANY_INT, EITHER, EITHER),
        NOT(1, ANY_INT, NOTHING, A_NUMBER),
        DUP(1, ANY_INT, NOTHING, EITHER),
        SWAP(1, ANY_INT, EITHER, EITHER),
        POP(1, ANY_INT, NOTHING, EITHER),
        GOTO(1, PROGRAM_LIMIT - 1, NOTHING, NOTHING),
        IF(1, PROGRAM_LIMIT - 1, NOTHING, A_NUMBER),
        ASSERT(1, ANY_INT, NOTHING, A_NUMBER),
        GET(3, GLOBALS - 1, NOTHING, NOTHING),
        PUT(3, GLOBALS - 1, NOTHING, A_NUMBER),
        LGET(3, LOCALS - 1, NOTHING, AN_ACCOUNT),
        LPUT(3, LOCALS - 1, AN_ACCOUNT, A_NUMBER),
        BALANCE(3, ANY_INT, NOTHING, AN_ACCOUNT),
        LOAD(1, SCRATCHES - 1, NOTHING, NOTHING),
        STORE(1, SCRATCHES - 1, NOTHING, A_NUMBER),
        PEER(1, SCRATCHES - 1, NOTHING, A_NUMBER),
        LOG(1, ANY_INT, NOTHING, A_NUMBER),
        RETURN(1, ANY_INT, NOTHING, A_NUMBER);

        private final int cost;
        private final int highestOperand;
        private final int takesUnderTop;
        private final int takesTop;

        Op(int cost, int highestOperand, int takesUnderTop, int takesTop) {
            this.cost = cost;
            this.highestOperand = highestOperand;
            this.takesUnderTop = takesUnderTop;
            this.takesTop = takesTop;
        }

        boolean allows(int operand) {
            return highestOperand == ANY_INT || (operand >= 0 && operand <= highestOperand);
        }

        int takesHowMany() {
            if (takesTop == NOTHING) {
                return 0;
            }
            return takesUnderTop == NOTHING ? 1 : 2;
        }
    }

    private static final class Program {
        private final int[] codes = new int[PROGRAM_LIMIT];
        private final int[] operands = new int[PROGRAM_LIMIT];
        private int size;

        int append(int code, int operand) {
            codes[size] = code;
            operands[size] = operand;
            return size++;
        }

        void copyFrom(Program other) {
            System.arraycopy(other.codes, 0, codes, 0, other.size);
            System.arraycopy(other.operands, 0, operands, 0, other.size);
            size = other.size;
        }
    }

    /** All that a group with a fault must leave as it was. */
    private static final class Books {
        private final int[] balances = new int[ACCOUNTS];
        private final int[][] globals = new int[APPS][GLOBALS];
        private final int[][] locals = new int[APPS][ACCOUNTS * LOCALS];
        /** For each account a bit for each app. */
        private final int[] optedApps = new int[ACCOUNTS];
        private final int[] lastLogs = new int[LOGS_KEPT];
        private int logTotal;

        void copyFrom(Books other) {
            System.arraycopy(other.balances, 0, balances, 0, ACCOUNTS);
            for (int app = 0; app < APPS; app++) {
                System.arraycopy(other.globals[app], 0, globals[app], 0, GLOBALS);
                System.arraycopy(other.locals[app], 0, locals[app], 0, ACCOUNTS * LOCALS);
            }
            System.arraycopy(other.optedApps, 0, optedApps, 0, ACCOUNTS);
            System.arraycopy(other.lastLogs, 0, lastLogs, 0, LOGS_KEPT);
            logTotal = other.logTotal;
        }

        boolean hasRoomFor(int account, int amount) {
            return balances[account] <= MAX - amount;
        }

        void clearGlobals(int app) {
            for (int k = 0; k < GLOBALS; k++) {
                globals[app][k] = 0;
            }
        }

        boolean isOpted(int app, int account) {
            return (optedApps[account] & (1 << app)) != 0;
        }

        void optIn(int app, int account) {
            optedApps[account] |= 1 << app;
            for (int k = 0; k < LOCALS; k++) {
                locals[app][account * LOCALS + k] = 0;
            }
        }

        void optOut(int app, int account) {
            optedApps[account] &= ~(1 << app);
        }

        int leastOf(int account) {
            if (optedApps[account] == 0 && balances[account] == 0) {
                return 0;
            }
            return LEAST_IN_USE + LEAST_OF_AN_APP * Integer.bitCount(optedApps[account]);
        }

        boolean isBelowLeast(int account) {
            return balances[account] < leastOf(account);
        }

        void addLog(int number) {
            lastLogs[logTotal % LOGS_KEPT] = number;
            logTotal++;
        }

        int loggedBack(int k) {
            return lastLogs[(logTotal - 1 - k) % LOGS_KEPT];
        }
    }

    /** A payment or a call; it is used again for later groups. */
    private static final class Transaction {
        private boolean isPayment;
        private int from;
        private int to;
        private int amount;
        private int app;
        private int kind;
        private int x;
        private int y;
        private final int[] scratch = new int[SCRATCHES];

        void becomePayment(int from, int to, int amount) {
            this.isPayment = true;
            this.from = from;
            this.to = to;
            this.amount = amount;
        }

        void becomeCall(int from, int app, int kind, int x, int y) {
            this.isPayment = false;
            this.from = from;
            this.app = app;
            this.kind = kind;
            this.x = x;
            this.y = y;
        }

        void clearScratch() {
            for (int k = 0; k < SCRATCHES; k++) {
                scratch[k] = 0;
            }
        }
    }

    private static final class Group {
        private final Transaction[] transactions = new Transaction[GROUP_LIMIT];
        private int size;

        Group() {
            for (int place = 0; place < GROUP_LIMIT; place++) {
                transactions[place] = new Transaction();
            }
        }

        int calls() {
            int calls = 0;
            for (int place = 0; place < size; place++) {
                if (!transactions[place].isPayment) {
                    calls++;
                }
            }
            return calls;
        }

        boolean hasPayment(int place) {
            return place >= 0 && place < size && transactions[place].isPayment;
        }

        boolean hasCall(int place) {
            return place >= 0 && place < size && !transactions[place].isPayment;
        }
    }

    private static final class Stack {
        private final int[] sorts = new int[STACK_LIMIT];
        private final int[] values = new int[STACK_LIMIT];
        private int size;

        /** Where this answers NO_FAULT, what the instruction takes is there and of its sort. */
        int faultOfTaking(Op op) {
            int taken = op.takesHowMany();
            if (size < taken) {
                return STACK_FAULT;
            }
            if (taken >= 1 && (sorts[size - 1] & op.takesTop) == 0) {
                return SORT_FAULT;
            }
            if (taken == 2 && (sorts[size - 2] & op.takesUnderTop) == 0) {
                return SORT_FAULT;
            }
            return NO_FAULT;
        }

        int topSort() {
            return sorts[size - 1];
        }

        int take() {
            size--;
            return values[size];
        }

        int put(int sort, int value) {
            if (size >= STACK_LIMIT) {
                return STACK_FAULT;
            }
            sorts[size] = sort;
            values[size] = value;
            size++;
            return NO_FAULT;
        }
    }

    /** Runs the programs of a group's calls, one after the other, on the budget they share. */
    private static final class Machine {
        private final Books books;
        private final Group group;
        private final Stack stack = new Stack();
        private int budget;
        private int spent;
        private int done;
        private int faultInstruction = NONE;
        private Transaction now;
        private int nowPlace;
        private int nextInstruction;
        private boolean ended;

        Machine(Books books, Group group) {
            this.books = books;
            this.group = group;
            this.now = group.transactions[0];
        }

        void prepare() {
            budget = BUDGET_OF_A_CALL * group.calls();
            spent = 0;
            done = 0;
            faultInstruction = NONE;
        }

        int run(Program program, int place) {
            now = group.transactions[place];
            now.clearScratch();
            nowPlace = place;
            nextInstruction = 0;
            ended = false;
            stack.size = 0;
            int at = 0;
            int fault = NO_FAULT;
            // Each instruction costs at least 1, so the step after the budget's last has a fault.
            int mostSteps = budget + 1;
            for (int steps = 0; steps < mostSteps && fault == NO_FAULT && !ended; steps++) {
                at = nextInstruction;
                fault = step(program, at);
            }
            if (fault != NO_FAULT) {
                faultInstruction = at;
            }
            return fault;
        }

        private int step(Program program, int at) {
            if (at >= program.size) {
                return PLACE_FAULT;
            }
            Op op = OPS[program.codes[at]];
            int a = program.operands[at];
            if (budget < op.cost) {
                return BUDGET_FAULT;
            }
            budget -= op.cost;
            spent += op.cost;
            done++;
            nextInstruction = at + 1;
            int fault = stack.faultOfTaking(op);
            if (fault != NO_FAULT) {
                return fault;
            }
            switch (op.takesHowMany()) {
                case 0:
                    return actTakingNothing(op, a);
                case 1:
                    return actTakingOne(op, a);
                default:
                    return actTakingTwo(op, a);
            }
        }

        private int actTakingNothing(Op op, int a) {
            switch (op) {
                case NUM:
                    return stack.put(A_NUMBER, a);
                case ACCOUNT:
                    return stack.put(AN_ACCOUNT, a);
                case ARG:
                    return stack.put(A_NUMBER, a == 0 ? now.x : now.y);
                case SENDER:
                    return stack.put(AN_ACCOUNT, now.from);
                case SIZE:
                    return stack.put(A_NUMBER, group.size);
                case INDEX:
                    return stack.put(A_NUMBER, nowPlace);
                case GET:
                    return stack.put(A_NUMBER, books.globals[now.app][a]);
                case LOAD:
                    return stack.put(A_NUMBER, now.scratch[a]);
                default: // GOTO
                    nextInstruction = a;
                    return NO_FAULT;
            }
        }

        private int actTakingOne(Op op, int a) {
            int sort = stack.topSort();
            int v = stack.take();
            switch (op) {
                case NOT:
                    return stack.put(A_NUMBER, v == 0 ? 1 : 0);
                case DUP:
                    stack.put(sort, v);
                    return stack.put(sort, v);
                case IF:
                    nextInstruction = v == 0 ? nextInstruction : a;
                    return NO_FAULT;
                case ASSERT:
                    return v == 0 ? MUST_FAULT : NO_FAULT;
                case RETURN:
                    ended = true;
                    return v == 0 ? MUST_FAULT : NO_FAULT;
                case PUT:
                    books.globals[now.app][a] = v;
                    return NO_FAULT;
                case STORE:
                    now.scratch[a] = v;
                    return NO_FAULT;
                case LOG:
                    books.addLog(v);
                    return NO_FAULT;
                case POP:
                    return NO_FAULT;
                default:
                    return lookUp(op, a, v);
            }
        }

        /** The instructions that take a transaction's place, or an account, and put what is there. */
        private int lookUp(Op op, int a, int v) {
            switch (op) {
                case AMOUNT:
                    return group.hasPayment(v)
                            ? stack.put(A_NUMBER, group.transactions[v].amount) : MUST_FAULT;
                case RECEIVER:
                    return group.hasPayment(v)
                            ? stack.put(AN_ACCOUNT, group.transactions[v].to) : MUST_FAULT;
                case PEER:
                    return v < nowPlace && group.hasCall(v)
                            ? stack.put(A_NUMBER, group.transactions[v].scratch[a]) : MUST_FAULT;
                case LGET:
                    return books.isOpted(now.app, v)
                            ? stack.put(A_NUMBER, books.locals[now.app][v * LOCALS + a])
                            : MUST_FAULT;
                default: // BALANCE
                    return stack.put(A_NUMBER, books.balances[v]);
            }
        }

        private int actTakingTwo(Op op, int a) {
            int ySort = stack.topSort();
            int y = stack.take();
            int xSort = stack.topSort();
            int x = stack.take();
            switch (op) {
                case LESS:
                    return stack.put(A_NUMBER, x < y ? 1 : 0);
                case SAME:
                    return stack.put(A_NUMBER, xSort == ySort && x == y ? 1 : 0);
                case SWAP:
                    stack.put(ySort, y);
                    return stack.put(xSort, x);
                case LPUT:
                    return putLocal(x, a, y);
                default:
                    return reckon(op, x, y);
            }
        }

        private int putLocal(int account, int k, int number) {
            if (!books.isOpted(now.app, account)) {
                return MUST_FAULT;
            }
            books.locals[now.app][account * LOCALS + k] = number;
            return NO_FAULT;
        }

        private int reckon(Op op, long x, long y) {
            if (op == Op.DIV && y == 0) {
                return MUST_FAULT;
            }
            long result;
            switch (op) {
                case ADD:
                    result = x + y;
                    break;
                case SUB:
                    result = x - y;
                    break;
                case MUL:
                    result = x * y;
                    break;
                default: // DIV
                    result = x / y;
                    break;
            }
            boolean isNumber = result >= 0 && result <= MAX;
            return isNumber ? stack.put(A_NUMBER, (int) result) : MUST_FAULT;
        }
    }
}
