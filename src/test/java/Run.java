import java.util.NoSuchElementException;

/**
 * One object whose calls are told as words, "kase 0 10 1 3", and answered as words: a number, true or false, or what was
 * thrown. They are counted: the document tells of an object's first 512 calls and no more.
 */
final class Run {
    private static final int MOST_CALLS = 512;
    private static final String TEXT = "text ";

    private final ReportedCases x = new ReportedCases();
    private int calls = 0;

    Run(Iterable<String> history) {
        for (String words : history) {
            call(words);
        }
    }

    int calls() {
        return calls;
    }

    /** "text t" feeds the signs of t, with blanks behind them up to twenty, and answers what rules() does with them. */
    String call(String words) {
        if (words.startsWith(TEXT)) {
            String text = words.substring(TEXT.length());
            feed(text);
            return call("rules " + text.length());
        }
        calls++;
        if (calls > MOST_CALLS) {
            throw new IllegalStateException("a test makes more than " + MOST_CALLS + " calls of one object");
        }
        String[] parts = words.split(" ");
        int[] n = new int[6];
        boolean flag = false;
        for (int i = 1; i < parts.length; i++) {
            if (parts[i].equals("true") || parts[i].equals("false")) {
                flag = parts[i].equals("true");
            } else {
                n[i - 1] = Integer.parseInt(parts[i]);
            }
        }
        try {
            return answer(parts[0], n, flag);
        } catch (IndexOutOfBoundsException | NoSuchElementException e) {
            return "throws." + e.getClass().getSimpleName();
        }
    }

    void feed(String text) {
        for (int i = 0; i < text.length(); i += 20) {
            call(feedOf(text, i));
        }
    }

    static String feedOf(String text, int from) {
        int[] n = new int[5];
        for (int j = 0; j < 20; j++) {
            int sign = from + j < text.length() ? text.charAt(from + j) : ' ';
            n[j / 4] = n[j / 4] << 8 | sign & 255;
        }
        return "feed " + n[0] + " " + n[1] + " " + n[2] + " " + n[3] + " " + n[4];
    }

    private String answer(String name, int[] n, boolean flag) {
        switch (name) {
            case "oppose":
                return "" + x.oppose(n[0], n[1], flag);
            case "holds":
                return "" + x.holds(n[0], n[1], n[2], n[3], flag);
            case "statute":
                return "" + x.statute(n[0], n[1], flag);
            default:
                return "" + number(name, n);
        }
    }

    private int number(String name, int[] n) {
        switch (name) {
            case "feed":
                return x.feed(n[0], n[1], n[2], n[3], n[4]);
            case "rules":
                return x.rules(n[0]);
            case "fault":
                return x.fault(n[0]);
            case "days":
                return x.days(n[0]);
            case "court":
                return x.court(n[0], n[1]);
            case "point":
                return x.point();
            case "kase":
                return x.kase(n[0], n[1], n[2], n[3]);
            case "treats":
                return x.treats(n[0], n[1], n[2], n[3]);
            case "join":
                return x.join(n[0], n[1]);
            case "strike":
                return x.strike(n[0]);
            case "stand":
                return x.stand(n[0], n[1], n[2], n[3], n[4]);
            case "lead":
                return x.lead(n[0], n[1], n[2], n[3], n[4]);
            case "asked":
                return x.asked(n[0], n[1], n[2], n[3], n[4]);
            case "binds":
                return x.binds(n[0], n[1], n[2], n[3], n[4], n[5]);
            case "quarrel":
                return x.quarrel(n[0], n[1], n[2], n[3]);
            case "forgotten":
                return x.forgotten(n[0], n[1]);
            case "apart":
                return x.apart(n[0], n[1], n[2], n[3]);
            case "hangs":
                return x.hangs(n[0], n[1], n[2], n[3], n[4]);
            case "joined":
                return x.joined(n[0], n[1]);
            case "look":
                return x.look(n[0], n[1]);
            case "count":
                return x.count(n[0]);
            default:
                throw new IllegalStateException("no such call: " + name);
        }
    }
}
