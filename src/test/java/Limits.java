import java.util.ArrayList;
import java.util.List;

/** Asks one sentence of the document after the other, at the last value that it allows and the first that it doesn't. */
final class Limits {
    static final int MIN = Integer.MIN_VALUE;
    static final int MAX = Integer.MAX_VALUE;

    private final List<List<String>> probes = List.of(lookProbe(), lawProbe(), askedProbe(), tellingProbe());
    private String sentence = "";
    private int wrong = 0;
    private int asked = 0;

    /** The words of the document that the calls behind this one ask for. */
    void sentence(String words) {
        sentence = words;
    }

    Run run(List<String> history) {
        return new Run(history);
    }

    Run run(String... history) {
        return new Run(List.of(history));
    }

    /** The call is answered so. */
    void due(Run run, String call, Object want) {
        asked++;
        String got = run.call(call);
        if (!got.equals("" + want)) {
            wrong++;
            System.out.println("\"" + sentence + "\": " + call + " answered " + got + ", due is " + want);
        }
    }

    /** One call behind the other on one object: what is called, what is due, and so on. */
    void all(Run run, Object... callsAndAnswers) {
        for (int i = 0; i + 1 < callsAndAnswers.length; i += 2) {
            due(run, "" + callsAndAnswers[i], callsAndAnswers[i + 1]);
        }
    }

    /**
     * Behind this history the call is answered so, and nothing that a later call shows is another one for it: of two
     * objects with the same history one gets the call, and then both must answer all probes alike.
     */
    void refused(List<String> history, String call, Object want) {
        for (List<String> probe : probes) {
            Run with = new Run(history);
            Run without = new Run(history);
            due(with, call, want);
            for (String later : probe) {
                String due = without.call(later);
                String got = with.call(later);
                if (!got.equals(due)) {
                    wrong++;
                    System.out.println("\"" + sentence + "\": " + call + " should change nothing, but behind it " + later
                        + " answered " + got + ", not " + due);
                }
            }
        }
    }

    /** The good call with each of the bad values in place of each number, in turn, is refused. */
    void refusedEach(List<String> history, String good, int[][] bad, Object want) {
        String[] words = good.split(" ");
        for (int place = 0; place < bad.length; place++) {
            for (int value : bad[place]) {
                String[] changed = words.clone();
                changed[place + 1] = "" + value;
                refused(history, String.join(" ", changed), want);
            }
        }
    }

    void finish() {
        System.out.println(wrong == 0 ? "all " + asked + " answers are as due" : wrong + " answers are not as due");
        if (wrong != 0) {
            System.exit(1);
        }
    }

    static int[] bad(int... values) {
        int[] all = new int[values.length + 2];
        System.arraycopy(values, 0, all, 0, values.length);
        all[values.length] = MIN;
        all[values.length + 1] = MAX;
        return all;
    }

    static List<String> times(int n, String call) {
        List<String> calls = new ArrayList<>();
        for (int i = 0; i < n; i++) {
            calls.add(call);
        }
        return calls;
    }

    @SafeVarargs
    static List<String> rows(List<String>... parts) {
        List<String> calls = new ArrayList<>();
        for (List<String> part : parts) {
            calls.addAll(part);
        }
        return calls;
    }

    /** Three COURTS, four POINTS, five CASES, NOTES of all nine kinds, RULES told, then a FAULT, a TAPE of twenty bytes. */
    static List<String> some() {
        return List.of("court 8 0", "court 4 0", "court 9 1", "point", "point", "point", "point", "oppose 0 1 true",
            "oppose 2 3 true", "days 50", "kase 0 10 1 3", "kase 1 20 2 3", "kase 1 20 3 7", "kase 0 30 1 1",
            "kase 2 50 1 1023", "holds 0 0 0 1 false", "holds 1 0 1 1 false", "holds 1 1 1 2 false", "holds 2 2 3 4 true",
            "treats 2 3 0 0", "treats 3 2 1 1", "treats 4 4 3 0", "statute 2 40 true", "statute 3 20 false", "join 0 2",
            "strike 9", "days 10", "text overrules same or rank>own;doubts 1;", "text binds 1;binds 1;",
            Run.feedOf("doubts 7;", 0));
    }

    static final int SOME_NOTES = 11;

    /** All that there may be: TODAY 9999, 6 COURTS, 12 POINTS, 32 CASES, 120 NOTES, 400 bytes. */
    static List<String> full() {
        List<String> calls = new ArrayList<>(times(20, Run.feedOf("          ", 0)));
        calls.addAll(List.of("court 0 0", "court 9 0", "court 5 3", "court 5 3", "court 2 1", "court 9 3"));
        calls.addAll(times(12, "point"));
        calls.add("oppose 0 11 true");
        calls.add("oppose 4 7 true");
        calls.add("days 9000");
        for (int kase = 0; kase < 32; kase++) {
            calls.add("kase " + kase % 6 + " " + kase % 7 * 1000 + " " + (1 + kase % 3) + " " + kase * 33);
        }
        calls.add("days 999");
        for (int note = 0; note < 110; note++) {
            calls.add("holds " + note % 32 + " 0 " + note % 12 + " " + note % 2 + " " + (note % 5 == 4));
        }
        calls.addAll(List.of("treats 2 6 0 0", "treats 3 5 0 0", "treats 4 12 31 0", "statute 3 9999 true",
            "statute 5 2000 false", "join 10 9", "strike 0", "strike 116", "treats 3 4 0 0", "statute 6 0 true"));
        return calls;
    }

    private static List<String> lookProbe() {
        List<String> calls = new ArrayList<>();
        for (int what = -1; what < 8; what++) {
            calls.add("count " + what);
        }
        calls.add("fault 0");
        calls.add("fault 1");
        for (int kase = 0; kase < 33; kase++) {
            for (int what = 0; what < 5; what++) {
                calls.add("look " + kase + " " + what);
            }
        }
        return calls;
    }

    private static List<String> lawProbe() {
        List<String> calls = new ArrayList<>();
        for (int point = 0; point < 13; point++) {
            calls.add("joined " + point + " 9999");
            calls.add("stand " + point + " 0 1023 9999 9999");
            calls.add("lead " + point + " 1 1023 9999 9999");
            calls.add("apart " + point + " " + (point + 1) + " 9999 9999");
        }
        for (int kase = 0; kase < 33; kase++) {
            calls.add("forgotten " + kase + " 9999");
            calls.add("hangs " + kase + " 1 1023 9999 9999");
        }
        for (int court = 0; court < 7; court++) {
            calls.add("quarrel " + court + " 1023 9999 9999");
        }
        return calls;
    }

    private static List<String> askedProbe() {
        List<String> calls = new ArrayList<>();
        for (int kase = 0; kase < 33; kase++) {
            for (int what = 0; what < 7; what++) {
                calls.add("asked " + kase + " " + kase % 4 + " " + what + " 9999 9999");
            }
            calls.add("binds " + kase + " " + kase % 4 + " 1 1023 9999 9999");
        }
        return calls;
    }

    /** Calls that show what no asking call does: the TAPE, which numbers come next, which POINTS are OPPOSED. */
    private static List<String> tellingProbe() {
        List<String> calls = new ArrayList<>();
        for (int n = 400; n >= 0; n -= 20) {
            calls.add("rules " + n);
        }
        calls.addAll(List.of("fault 0", "fault 1", "count 5", "count 6", "feed 0 0 0 0 0", "strike 0", "join 0 1",
            "statute 0 0 true", "days 0", "days 1", "kase 0 0 1 0", "holds 0 0 0 0 false", "treats 4 1 0 0", "court 0 0",
            "point"));
        for (int a = 0; a < 12; a++) {
            for (int b = 0; b < a; b++) {
                calls.add("oppose " + a + " " + b + " true");
            }
        }
        calls.add("oppose 1 0 false");
        for (int what = 0; what < 7; what++) {
            calls.add("count " + what);
        }
        return calls;
    }
}
