import java.math.BigInteger;
import java.util.ArrayList;
import java.util.HashMap;
import java.util.List;
import java.util.Map;

/** The RULES read by plain descent along the document's grammar, into trees that are worked out with big numbers. */
final class PlainRules {
    static final BigInteger MOST = BigInteger.TEN.pow(12);
    static final List<String> NAMES = List.of("rank", "own", "same", "land", "seats", "votes", "age", "doubted");

    interface Tree {
        /** Null is ERROR. */
        BigInteger value(Map<String, Long> names);
    }

    private static final class Fault extends RuntimeException {
        private static final long serialVersionUID = 1;
        final int kind;
        final int place;

        Fault(int kind, int place) {
            this.kind = kind;
            this.place = place;
        }
    }

    private record Token(String text, int place) {
    }

    int kind = 0;
    int place = -1;
    int lines = 0;
    int knots = 0;
    int doubts = 2;
    Tree binds = names -> standard(names);
    Tree overrules = names -> standard(names);

    private final List<Token> tokens = new ArrayList<>();
    private final Map<String, Boolean> told = new HashMap<>();
    private int at = 0;
    private int open = 0;

    private static BigInteger standard(Map<String, Long> names) {
        boolean above = names.get("rank") > names.get("own") || names.get("same") == 1;
        return names.get("land") == 1 && above ? BigInteger.ONE : BigInteger.ZERO;
    }

    PlainRules(String text) {
        split(text);
        try {
            while (!is("")) {
                line();
            }
        } catch (Fault f) {
            kind = f.kind;
            place = f.place;
        }
    }

    private void split(String text) {
        java.util.regex.Matcher m = java.util.regex.Pattern
            .compile("[ \n]+|([a-z]+|[0-9]+|<=|<>|>=|.)", java.util.regex.Pattern.DOTALL).matcher(text);
        while (m.find()) {
            if (m.group(1) != null) {
                tokens.add(new Token(m.group(1), m.start()));
            }
        }
        tokens.add(new Token("", text.length()));
    }

    private boolean is(String text) {
        return tokens.get(at).text.equals(text);
    }

    private Fault fault(int what) {
        return new Fault(what, tokens.get(at).place);
    }

    private void must(String text) {
        if (!is(text)) {
            throw fault(1);
        }
        at++;
    }

    private void line() {
        String word = tokens.get(at).text;
        if (!List.of("binds", "overrules", "doubts").contains(word)) {
            throw fault(1);
        }
        if (told.put(word, true) != null) {
            throw fault(3);
        }
        at++;
        if (word.equals("doubts")) {
            doubts = number(1, 9);
        } else if (word.equals("binds")) {
            binds = either();
        } else {
            overrules = either();
        }
        must(";");
        lines++;
    }

    private boolean isNumber() {
        return tokens.get(at).text.matches("[0-9]+");
    }

    private int number(int least, int most) {
        if (!isNumber()) {
            throw fault(1);
        }
        BigInteger n = new BigInteger(tokens.get(at).text);
        if (n.compareTo(BigInteger.valueOf(least)) < 0 || n.compareTo(BigInteger.valueOf(most)) > 0) {
            throw fault(2);
        }
        at++;
        return n.intValue();
    }

    private String knot() {
        knots++;
        if (knots > 64) {
            throw fault(2);
        }
        return tokens.get(at++).text;
    }

    private Tree either() {
        Tree left = both();
        while (is("or")) {
            left = pair(knot(), left, both());
        }
        return left;
    }

    private Tree both() {
        Tree left = negation();
        while (is("and")) {
            left = pair(knot(), left, negation());
        }
        return left;
    }

    private Tree negation() {
        if (!is("not")) {
            return comparison();
        }
        knot();
        Tree inner = negation();
        return names -> {
            BigInteger v = inner.value(names);
            return v == null ? null : truth(v.signum() == 0);
        };
    }

    private Tree comparison() {
        Tree left = sum();
        if (List.of("<", "<=", "=", "<>", ">=", ">").contains(tokens.get(at).text)) {
            return pair(knot(), left, sum());
        }
        return left;
    }

    private Tree sum() {
        Tree left = product();
        while (is("+") || is("-")) {
            left = pair(knot(), left, product());
        }
        return left;
    }

    private Tree product() {
        Tree left = part();
        while (is("*") || is("/")) {
            left = pair(knot(), left, part());
        }
        return left;
    }

    private Tree part() {
        if (is("(")) {
            if (open == 8) {
                throw fault(2);
            }
            open++;
            at++;
            Tree inner = either();
            must(")");
            open--;
            return inner;
        }
        if (NAMES.contains(tokens.get(at).text)) {
            String name = knot();
            return names -> BigInteger.valueOf(names.get(name));
        }
        int n = number(0, 9999);
        at--;
        knot();
        return names -> BigInteger.valueOf(n);
    }

    private static BigInteger truth(boolean b) {
        return b ? BigInteger.ONE : BigInteger.ZERO;
    }

    private static Tree pair(String sign, Tree left, Tree right) {
        return names -> {
            BigInteger a = left.value(names);
            BigInteger b = right.value(names);
            if (a == null || b == null) {
                return null;
            }
            BigInteger v = switch (sign) {
                case "or" -> truth(a.signum() != 0 || b.signum() != 0);
                case "and" -> truth(a.signum() != 0 && b.signum() != 0);
                case "<" -> truth(a.compareTo(b) < 0);
                case "<=" -> truth(a.compareTo(b) <= 0);
                case "=" -> truth(a.equals(b));
                case "<>" -> truth(!a.equals(b));
                case ">=" -> truth(a.compareTo(b) >= 0);
                case ">" -> truth(a.compareTo(b) > 0);
                case "+" -> a.add(b);
                case "-" -> a.subtract(b);
                case "*" -> a.multiply(b);
                default -> b.signum() == 0 ? null : a.divide(b);
            };
            return v == null || v.abs().compareTo(MOST) > 0 ? null : v;
        };
    }
}
