import java.util.Arrays;
import java.util.List;

/** What many tests set up: programs written as text, funded accounts, groups with one call. */
final class Scene {
    static final List<String> CODES = Arrays.asList(
            "NUM", "ACCOUNT", "ARG", "SENDER", "SIZE", "INDEX", "AMOUNT", "RECEIVER",
            "ADD", "SUB", "MUL", "DIV", "LESS", "SAME", "NOT", "DUP", "SWAP", "POP",
            "GOTO", "IF", "ASSERT", "GET", "PUT", "LGET", "LPUT", "BALANCE",
            "LOAD", "STORE", "PEER", "LOG", "RETURN");

    static final String APPROVE = "NUM 1; RETURN";

    private Scene() {
    }

    /** A new ledger whose accounts 0, 1, 2 .. have these balances. */
    static GroupLedger funded(int... balances) {
        GroupLedger ledger = new GroupLedger();
        for (int account = 0; account < balances.length; account++) {
            ledger.mint(account, balances[account]);
        }
        return ledger;
    }

    /** Emits instructions such as "NUM 5; LOG" and answers how many there were. */
    static int emit(GroupLedger ledger, String text) {
        String[] lines = text.split(";");
        for (String line : lines) {
            String[] words = line.trim().split(" ");
            int code = CODES.indexOf(words[0]);
            int operand = words.length > 1 ? Integer.parseInt(words[1]) : 0;
            if (code < 0 || ledger.emit(code, operand) < 0) {
                throw new IllegalArgumentException("not emitted: " + line);
            }
        }
        return lines.length;
    }

    static void install(GroupLedger ledger, int app, String text) {
        emit(ledger, text);
        if (ledger.deploy(app) < 0) {
            throw new IllegalArgumentException("not deployed: " + text);
        }
    }

    /** Submits a group that is one plain call by account 0. */
    static int submitCall(GroupLedger ledger, int app) {
        return submitCall(ledger, 0, app, 0);
    }

    static int submitCall(GroupLedger ledger, int from, int app, int kind) {
        ledger.call(from, app, kind, 0, 0);
        return ledger.submit();
    }

    static int submitPayment(GroupLedger ledger, int from, int to, int amount) {
        ledger.pay(from, to, amount);
        return ledger.submit();
    }

    /** Everything the face shows of an object, to see that a call changed nothing. */
    static String look(GroupLedger ledger) {
        StringBuilder seen = new StringBuilder();
        for (int account = 0; account < 6; account++) {
            seen.append(" balance ").append(ledger.balance(account));
            seen.append(" least ").append(ledger.least(account));
        }
        for (int app = 0; app < 4; app++) {
            for (int k = 0; k < 4; k++) {
                seen.append(" global ").append(ledger.global(app, k));
            }
            for (int account = 0; account < 6; account++) {
                seen.append(" local ").append(ledger.local(app, account, 0));
                seen.append(" ").append(ledger.local(app, account, 1));
            }
        }
        for (int what = 0; what < 4; what++) {
            seen.append(" report ").append(ledger.report(what));
        }
        for (int k = 0; k < 9; k++) {
            seen.append(" logged ").append(ledger.logged(k));
        }
        for (int what = 0; what < 9; what++) {
            seen.append(" count ").append(ledger.count(what));
        }
        return seen.toString();
    }
}
