import java.util.ArrayList;
import java.util.HashSet;
import java.util.List;
import java.util.Map;
import java.util.Set;
import java.util.regex.Matcher;
import java.util.regex.Pattern;

/** A TEXT, read apart from the program: TOKENS by a pattern, a tree of sums, FAULTS as exceptions. */
final class PlainText {
    interface Sum {
        long value(Map<String, Long> names, int rings);
    }

    interface Truth {
        boolean is(Map<String, Long> names, int rings);
    }

    static final class Fault extends RuntimeException {
        private static final long serialVersionUID = 1L;
        final int which;
        final int place;

        Fault(int which, int place) {
            this.which = which;
            this.place = place;
        }
    }

    static final Pattern TOKEN = Pattern.compile("[a-zA-Z]+|[0-9]+|<=|>=|[<>=#+\\-*/();]");
    static final Set<String> BOTH = Set.of("day", "weather", "who", "road", "walk", "run", "due");
    static final Set<String> TAKES = Set.of("fast", "jam");

    final String bytes;
    final List<String[]> clauses = new ArrayList<>();
    final Set<String> laws = new HashSet<>();
    Sum runs;
    Sum takes;
    int fault;
    int place;

    private int at;
    private String inLaw;

    PlainText(String bytes) {
        this.bytes = bytes;
        try {
            while (!peek().isEmpty()) {
                clause();
            }
        } catch (Fault f) {
            fault = f.which;
            place = f.place;
        }
    }

    /** The next TOKEN; empty at the end; "?" if there is none. */
    private String peek() {
        while (at < bytes.length() && (bytes.charAt(at) == 32 || bytes.charAt(at) == 10)) {
            at++;
        }
        if (at == bytes.length()) {
            return "";
        }
        Matcher m = TOKEN.matcher(bytes).region(at, bytes.length());
        return m.lookingAt() ? m.group() : "?";
    }

    private String take() {
        String token = peek();
        at += token.length();
        return token;
    }

    private Fault fault(int which) {
        peek();
        return new Fault(which, at);
    }

    private void want(String token) {
        if (!peek().equals(token)) {
            throw fault(1);
        }
        take();
    }

    private boolean isNumber() {
        return !peek().isEmpty() && Character.isDigit(peek().charAt(0));
    }

    private String number(int low, int high) {
        if (!isNumber()) {
            throw fault(1);
        }
        java.math.BigInteger n = new java.math.BigInteger(peek());
        if (n.compareTo(java.math.BigInteger.valueOf(low)) < 0
                || n.compareTo(java.math.BigInteger.valueOf(high)) > 0) {
            throw fault(2);
        }
        take();
        return n.toString();
    }

    private void clause() {
        String first = peek();
        if (!Set.of("runs", "takes", "person", "ring", "due", "bed", "up", "day").contains(first)) {
            throw fault(1);
        }
        if (laws.contains(first)) {
            throw fault(4);
        }
        if (clauses.size() == 24) {
            throw fault(6);
        }
        take();
        String[] c = new String[5];
        c[0] = first;
        switch (first) {
            case "runs":
                laws.add(first);
                inLaw = first;
                runs = sum(0);
                break;
            case "takes":
                laws.add(first);
                inLaw = first;
                takes = sum(0);
                break;
            case "person":
                c[1] = number(0, 3);
                want("walk");
                c[2] = number(1, 99);
                want("run");
                c[3] = number(1, 99);
                want("due");
                c[4] = number(0, 99);
                break;
            case "ring":
                c[1] = number(0, 255);
                break;
            case "due":
                c[1] = number(0, 99);
                want("of");
                c[2] = number(0, 7);
                break;
            case "day":
                c[1] = number(1, 60);
                break;
            default:
                c[1] = number(0, 7);
                break;
        }
        want(";");
        clauses.add(c);
    }

    static long bound(long v) {
        return Math.max(-1000000, Math.min(1000000, v));
    }

    private Sum sum(int open) {
        Sum left = product(open);
        while (peek().equals("+") || peek().equals("-")) {
            boolean plus = take().equals("+");
            Sum a = left;
            Sum b = product(open);
            left = (n, r) -> bound(plus ? a.value(n, r) + b.value(n, r)
                    : a.value(n, r) - b.value(n, r));
        }
        return left;
    }

    private Sum product(int open) {
        Sum left = one(open);
        while (peek().equals("*") || peek().equals("/")) {
            boolean times = take().equals("*");
            Sum a = left;
            Sum b = one(open);
            left = (n, r) -> {
                long x = a.value(n, r);
                long y = b.value(n, r);
                return bound(times ? x * y : y == 0 ? 0 : x / y);
            };
        }
        return left;
    }

    private void open(int open) {
        if (open == 8) {
            throw fault(3);
        }
        take();
    }

    private Sum one(int open) {
        if (isNumber()) {
            long value = Long.parseLong(number(0, 9999));
            return (n, r) -> value;
        }
        String token = peek();
        switch (token) {
            case "(": {
                open(open);
                Sum inside = sum(open + 1);
                want(")");
                return inside;
            }
            case "-": {
                open(open);
                Sum inside = one(open + 1);
                return (n, r) -> -inside.value(n, r);
            }
            case "rings": {
                open(open);
                Sum inside = one(open + 1);
                return (n, r) -> {
                    long who = inside.value(n, r);
                    return who >= 0 && who <= 7 ? r >> who & 1 : 0;
                };
            }
            case "if": {
                open(open);
                Truth either = either(open + 1);
                want("then");
                Sum yes = sum(open + 1);
                want("else");
                Sum no = sum(open + 1);
                want("end");
                return (n, r) -> either.is(n, r) ? yes.value(n, r) : no.value(n, r);
            }
            default:
                break;
        }
        if (!BOTH.contains(token) && !TAKES.contains(token) && !token.equals("heard")) {
            throw fault(1);
        }
        if (TAKES.contains(token) && inLaw.equals("runs")
                || token.equals("heard") && inLaw.equals("takes")) {
            throw fault(5);
        }
        take();
        return (n, r) -> n.get(token);
    }

    private Truth either(int open) {
        Truth left = both(open);
        while (peek().equals("or") || peek().equals("xor")) {
            boolean or = take().equals("or");
            Truth a = left;
            Truth b = both(open);
            left = (n, r) -> or ? a.is(n, r) | b.is(n, r) : a.is(n, r) != b.is(n, r);
        }
        return left;
    }

    private Truth both(int open) {
        Truth left = ask(open);
        while (peek().equals("and")) {
            take();
            Truth a = left;
            Truth b = ask(open);
            left = (n, r) -> a.is(n, r) & b.is(n, r);
        }
        return left;
    }

    private Truth ask(int open) {
        if (peek().equals("not")) {
            open(open);
            Truth inside = ask(open + 1);
            return (n, r) -> !inside.is(n, r);
        }
        Sum left = sum(open);
        String sign = peek();
        if (!Set.of("<", "<=", ">", ">=", "=", "#").contains(sign)) {
            throw fault(1);
        }
        take();
        Sum right = sum(open);
        return (n, r) -> {
            int c = Long.compare(left.value(n, r), right.value(n, r));
            switch (sign) {
                case "<":
                    return c < 0;
                case "<=":
                    return c <= 0;
                case ">":
                    return c > 0;
                case ">=":
                    return c >= 0;
                case "=":
                    return c == 0;
                default:
                    return c != 0;
            }
        };
    }
}
