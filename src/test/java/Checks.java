/** What the tests of the project share: a tally of wrong answers, and a way to feed a text. */
final class Checks {
    private int wrong = 0;

    void due(String what, long got, long want) {
        if (got != want) {
            wrong++;
            System.out.println(what + " answered " + got + ", due is " + want);
        }
    }

    void due(String what, boolean got, boolean want) {
        due(what, got ? 1 : 0, want ? 1 : 0);
    }

    void finish() {
        System.out.println(wrong == 0 ? "all answers are as due" : wrong + " answers are not as due");
        if (wrong != 0) {
            System.exit(1);
        }
    }

    static void feed(ReportedCases x, String text) {
        for (int i = 0; i < text.length(); i += 20) {
            int[] n = new int[5];
            for (int j = 0; j < 20; j++) {
                int sign = i + j < text.length() ? text.charAt(i + j) : ' ';
                n[j / 4] = n[j / 4] << 8 | sign & 255;
            }
            x.feed(n[0], n[1], n[2], n[3], n[4]);
        }
    }

    static int rules(ReportedCases x, String text) {
        feed(x, text);
        return x.rules(text.length());
    }

    /** The text is refused with this FAULT at this place. */
    void refused(String text, int kind, int place) {
        ReportedCases x = new ReportedCases();
        due("rules of '" + text + "'", rules(x, text), ReportedCases.NONE);
        due("fault(0) of '" + text + "'", x.fault(0), kind);
        due("fault(1) of '" + text + "'", x.fault(1), place);
    }

    /** The text is taken with so many LINES and KNOTS. */
    void taken(String text, int lines, int knots) {
        ReportedCases x = new ReportedCases();
        due("rules of '" + text + "'", rules(x, text), lines);
        due("fault(0) of '" + text + "'", x.fault(0), 0);
        due("fault(1) of '" + text + "'", x.fault(1), ReportedCases.NONE);
        due("count(5) of '" + text + "'", x.count(5), knots);
    }
}
