import java.util.Map;
import java.util.NoSuchElementException;
import java.util.Random;
import java.util.TreeMap;

/** Random runs of calls, each answer held against PlainCases. The seeds are fixed, so that every run is the same. */
public final class AgainstPlainTest {
    private static final int[] EDGES = {Integer.MIN_VALUE, -2, -1, 0, 1, 3, 4, 6, 9, 10, 12, 32, 120, 1023, 1024, 9999,
        10000, Integer.MAX_VALUE};
    private static final String[] TEXTS = {
        "binds land and(rank>own or same);", "binds rank>=own;overrules same;doubts 1;", "binds 1;", "binds 0;doubts 1;",
        "overrules votes*2>seats and rank>=own;", "binds age<30 and rank>own-1;doubts 1;",
        "binds votes=seats or doubted<>1;", "overrules age/(doubted-1)>3;", "overrules doubted>0;doubts 3;",
        "binds not doubted and (land or rank>8);overrules 1;doubts 1;", "doubts 9;", "",
        "binds 9999*9999*9999*9999 or 1;overrules 9999*9999*9999-9999*9999*9999+1;", "binds seats>1;overrules land;"};
    private static final String[] PIECES = {"binds", "overrules", "doubts", "rank", "own", "same", "land", "seats", "votes",
        "age", "doubted", "not", "and", "or", "(", ")", "<", "<=", "=", "<>", ">=", ">", "+", "-", "*", "/", "0", "1", "9",
        "10", "9999", "10000", "00007", ";", " ", "\n", "x", "#", "\u00e9", "rankown", "99999999999"};

    private final Random random;
    private final ReportedCases real = new ReportedCases();
    private final PlainCases plain = new PlainCases();
    private final StringBuilder story = new StringBuilder();
    private final Map<String, Integer> answers;
    private final int bits;
    /** A rich run has few POINTS and FACTS, seldom a STATUTE or STRIKE, and asks of late DAYS: more of its law stands. */
    private final boolean rich;
    private int wrong = 0;

    private AgainstPlainTest(long seed, Map<String, Integer> answers) {
        // Neighbouring seeds begin alike, so they are spread.
        random = new Random(seed * 0x9E3779B97F4A7C15L);
        rich = random.nextBoolean();
        bits = 1 + random.nextInt(rich ? 4 : 10);
        this.answers = answers;
    }

    private void due(String call, long got, long want) {
        story.append(call).append(" = ").append(want).append('\n');
        String name = call.substring(0, call.indexOf('('));
        answers.merge(name + (Math.abs(want) < 8 ? " " + want : " other"), 1, Integer::sum);
        if (got != want) {
            wrong++;
            System.out.println(story + "... but the last one answered " + got);
        }
    }

    private int up(int n) {
        if (random.nextInt(rich ? 300 : 40) == 0) {
            return EDGES[random.nextInt(EDGES.length)];
        }
        return n <= 0 ? 0 : random.nextInt(n);
    }

    private int facts() {
        int f = up(1 << bits);
        return random.nextInt(3) == 0 ? f : f | up(1 << bits);
    }

    private int day() {
        int r = random.nextInt(6);
        if (rich && r > 1) {
            return plain.today;
        }
        return r == 0 ? up(10000) : r == 1 ? plain.today : up(plain.today + 3);
    }

    private int aPoint() {
        return up(plain.points);
    }

    private int aCase() {
        return up(plain.cases.size());
    }

    private int aCourt() {
        return up(plain.courts.size());
    }

    private void text(String text) {
        StringBuilder padded = new StringBuilder(text);
        while (padded.length() % 20 != 0) {
            padded.append(' ');
        }
        for (int i = 0; i < padded.length(); i += 20) {
            int[] n = new int[5];
            for (int j = 0; j < 20; j++) {
                n[j / 4] = n[j / 4] << 8 | padded.charAt(i + j) & 255;
            }
            due("feed(" + n[0] + ", " + n[1] + ", " + n[2] + ", " + n[3] + ", " + n[4] + ")",
                real.feed(n[0], n[1], n[2], n[3], n[4]), plain.feed(n[0], n[1], n[2], n[3], n[4]));
        }
        int n = random.nextInt(20) == 0 ? up(400) : text.length();
        due("rules(" + n + ") of '" + text + "'", real.rules(n), plain.rules(n));
        for (int what = -1; what < 3; what++) {
            due("fault(" + what + ")", real.fault(what), plain.fault(what));
        }
        due("count(5)", real.count(5), plain.count(5));
        due("count(6)", real.count(6), plain.count(6));
    }

    private void anyText() {
        int r = random.nextInt(3);
        if (r == 0) {
            text(TEXTS[random.nextInt(TEXTS.length)]);
            return;
        }
        StringBuilder text = new StringBuilder();
        if (r == 1) {
            int n = random.nextInt(12);
            for (int i = 0; i < n; i++) {
                text.append(PIECES[random.nextInt(PIECES.length)]).append(random.nextInt(3) == 0 ? " " : "");
            }
        } else {
            text.append(random.nextBoolean() ? "binds " : "overrules ");
            grow(text, random.nextInt(7));
            text.append(";");
            if (random.nextInt(3) == 0) {
                text.setCharAt(random.nextInt(text.length()), "()<=+ o;1".charAt(random.nextInt(9)));
            }
            if (random.nextInt(2) == 0) {
                text.append("doubts ").append(random.nextInt(5)).append(";");
            }
        }
        text(text.length() > 380 ? text.substring(0, 380) : text.toString());
    }

    private void grow(StringBuilder text, int depth) {
        if (depth == 0) {
            text.append(random.nextBoolean() ? PlainRules.NAMES.get(random.nextInt(8)) : "" + random.nextInt(12));
            return;
        }
        int r = random.nextInt(10);
        if (r < 2) {
            text.append("not ");
            grow(text, depth - 1);
        } else if (r < 5) {
            text.append("(");
            grow(text, depth - 1);
            text.append(")");
        } else {
            grow(text, depth - 1);
            text.append(' ').append(PIECES[12 + random.nextInt(14)].replace("(", "+").replace(")", "*")).append(' ');
            grow(text, random.nextInt(depth));
        }
    }

    private void tell() {
        int a = aCase();
        int b = aCase();
        int p = aPoint();
        int deed = random.nextInt(16);
        if (rich && (deed == 11 || deed == 12 || deed == 13) && random.nextInt(4) != 0) {
            return;
        }
        switch (deed) {
            case 0, 1, 2 -> {
                int court = aCourt();
                int day = random.nextInt(3) == 0 ? plain.today : up(plain.today + 1);
                int judges = 1 + up(3);
                int f = facts();
                due("kase(" + court + ", " + day + ", " + judges + ", " + f + ")", real.kase(court, day, judges, f),
                    plain.kase(court, day, judges, f));
            }
            case 3, 4, 5, 6, 7 -> {
                int judge = up(plain.aCase(a) ? plain.cases.get(a).judges() : 3);
                int needs = rich && random.nextInt(3) == 0 ? 0 : facts() & (random.nextInt(4) == 0 || !plain.aCase(a) ? -1 : plain.cases.get(a).facts());
                boolean said = random.nextInt(5) == 0;
                due("holds(" + a + ", " + judge + ", " + p + ", " + needs + ", " + said + ")",
                    real.holds(a, judge, p, needs, said), plain.holds(a, judge, p, needs, said));
            }
            case 8, 9, 10 -> {
                int what = rich && random.nextInt(3) != 0 ? 3 : 2 + up(3);
                due("treats(" + what + ", " + a + ", " + b + ", " + p + ")", real.treats(what, a, b, p),
                    plain.treats(what, a, b, p));
            }
            case 11 -> {
                int d = day();
                boolean lays = random.nextInt(3) == 0;
                due("statute(" + p + ", " + d + ", " + lays + ")", real.statute(p, d, lays), plain.statute(p, d, lays));
            }
            case 12 -> {
                int q = aPoint();
                if (random.nextInt(3) == 0) {
                    due("join(" + p + ", " + q + ")", real.join(p, q), plain.join(p, q));
                }
            }
            case 13 -> {
                int n = up(plain.notes.size());
                due("strike(" + n + ")", real.strike(n), plain.strike(n));
            }
            case 14 -> {
                int q = aPoint();
                boolean on = random.nextInt(5) != 0;
                due("oppose(" + p + ", " + q + ", " + on + ")", real.oppose(p, q, on) ? 1 : 0,
                    plain.oppose(p, q, on) ? 1 : 0);
            }
            default -> {
                int n = up(12);
                due("days(" + n + ")", real.days(n), plain.days(n));
            }
        }
    }

    private int lookedAt(int kase, int what) {
        try {
            return real.look(kase, what);
        } catch (IndexOutOfBoundsException e) {
            return -100;
        } catch (NoSuchElementException e) {
            return -200;
        }
    }

    private void ask() {
        int a = aCase();
        int p = aPoint();
        int q = aPoint();
        int c = aCourt();
        int f = facts();
        int d = day();
        int k = day();
        int what = up(7);
        String tail = c + ", " + f + ", " + d + ", " + k + ")";
        switch (random.nextInt(11)) {
            case 0 -> due("stand(" + p + ", " + tail, real.stand(p, c, f, d, k), plain.stand(p, c, f, d, k));
            case 1 -> due("lead(" + p + ", " + tail, real.lead(p, c, f, d, k), plain.lead(p, c, f, d, k));
            case 2, 3 -> due("asked(" + a + ", " + p + ", " + what + ", " + d + ", " + k + ")",
                real.asked(a, p, what, d, k), plain.asked(a, p, what, d, k));
            case 4 -> due("binds(" + a + ", " + p + ", " + tail, real.binds(a, p, c, f, d, k),
                plain.binds(a, p, c, f, d, k));
            case 5 -> due("quarrel(" + tail, real.quarrel(c, f, d, k), plain.quarrel(c, f, d, k));
            case 6 -> due("forgotten(" + a + ", " + k + ")", real.forgotten(a, k), plain.forgotten(a, k));
            case 7 -> due("apart(" + p + ", " + q + ", " + d + ", " + k + ")", real.apart(p, q, d, k),
                plain.apart(p, q, d, k));
            case 8 -> due("hangs(" + a + ", " + tail, real.hangs(a, c, f, d, k), plain.hangs(a, c, f, d, k));
            case 9 -> due("joined(" + p + ", " + k + ")", real.joined(p, k), plain.joined(p, k));
            default -> {
                due("look(" + a + ", " + what + ")", lookedAt(a, what), plain.look(a, what));
                due("count(" + what + ")", real.count(what), plain.count(what));
            }
        }
    }

    private void go() {
        int someCourts = 1 + random.nextInt(7);
        for (int i = 0; i < someCourts; i++) {
            int rank = up(10);
            int land = up(random.nextInt(3) == 0 ? 4 : 1);
            due("court(" + rank + ", " + land + ")", real.court(rank, land), plain.court(rank, land));
        }
        int somePoints = 1 + random.nextInt(rich ? 5 : 13);
        for (int i = 0; i < somePoints; i++) {
            due("point()", real.point(), plain.point());
        }
        int start = random.nextInt(40);
        due("days(" + start + ")", real.days(start), plain.days(start));
        int pairs = random.nextInt(12);
        for (int i = 0; i < pairs; i++) {
            int p = aPoint();
            int q = aPoint();
            due("oppose(" + p + ", " + q + ", true)", real.oppose(p, q, true) ? 1 : 0, plain.oppose(p, q, true) ? 1 : 0);
        }
        if (random.nextInt(3) == 0) {
            text(TEXTS[random.nextInt(TEXTS.length)]);
        }
        int tells = 30 + random.nextInt(200);
        for (int i = 0; i < tells && wrong == 0; i++) {
            tell();
            if (random.nextInt(3) == 0) {
                ask();
            }
            if (random.nextInt(40) == 0) {
                anyText();
            }
        }
        for (int i = 0; i < 60 && wrong == 0; i++) {
            ask();
        }
    }

    public static void main(String[] args) {
        int runs = args.length > 0 ? Integer.parseInt(args[0]) : 400;
        int wrong = 0;
        Map<String, Integer> answers = new TreeMap<>();
        for (int seed = 0; seed < runs && wrong == 0; seed++) {
            AgainstPlainTest run = new AgainstPlainTest(seed, answers);
            run.go();
            wrong += run.wrong;
        }
        for (int seed = 0; seed < runs * 20 && wrong == 0; seed++) {
            AgainstPlainTest run = new AgainstPlainTest(seed + 1000000L, answers);
            run.anyText();
            run.anyText();
            wrong += run.wrong;
        }
        if (args.length > 0) {
            System.out.println(answers);
        }
        System.out.println(wrong == 0 ? "all answers are as the plain ones" : "some answers are not as the plain ones");
        if (wrong != 0) {
            System.exit(1);
        }
    }
}
