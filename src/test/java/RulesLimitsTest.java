import java.util.ArrayList;
import java.util.List;

/** The limits of part 2 of the document and of promises 2, 3 and 4, a method for each sentence that names one. */
public final class RulesLimitsTest {
    private static final Limits LIMITS = new Limits();
    private static final List<String> SOME = Limits.some();
    private static final List<String> FULL = Limits.full();
    private static final String BLANKS = " ".repeat(20);

    public static void main(String[] args) {
        mostBytes();
        highestFirst();
        firstBytes();
        notSoManyBytes();
        emptyBehindRules();
        linesOfAText();
        faultOfTheLatest();
        everyByte();
        wordsAndDigits();
        signsOfTwo();
        moreMustCome();
        numbers();
        ninthOpen();
        knots();
        toldAlready();
        theFirstAndTheLeast();
        valuesAndErrors();
        bothSides();
        namesAtTheirEnds();
        withoutALine();
        LIMITS.finish();
    }

    /** The text, at the start of a TAPE that is empty, is taken: so many LINES, so many KNOTS. */
    private static void taken(String text, int lines, int knots) {
        Run run = LIMITS.run();
        LIMITS.all(run, "text " + text, lines, "fault 0", 0, "fault 1", -1, "count 5", knots);
    }

    /** The text is refused with this FAULT at this place, and the RULES before it are in force. */
    private static void fault(String text, int kind, int place) {
        Run run = LIMITS.run("text binds same;doubts 5;");
        LIMITS.all(run, "text " + text, -1, "fault 0", kind, "fault 1", place, "count 5", 1, "count 6", 5,
            "feed 0 0 0 0 0", 20);
    }

    private static void mostBytes() {
        LIMITS.sentence("how many it has; NONE, and none come, if it would have more than 400.");
        Run run = LIMITS.run();
        for (int i = 1; i <= 19; i++) {
            LIMITS.due(run, Run.feedOf(BLANKS, 0), 20 * i);
        }
        LIMITS.all(run, Run.feedOf(BLANKS.substring(9) + "doubts 7;", 0), 400, "feed 1 2 3 4 5", -1,
            Run.feedOf("doubts 3;", 0), -1, "rules 401", -2, "rules 400", 1, "count 6", 7, "feed 0 0 0 0 0", 20);
        for (String call : new String[] {"feed 0 0 0 0 0", "feed -1 -1 -1 -1 -1", Run.feedOf("doubts 3;", 0)}) {
            LIMITS.refused(FULL, call, -1);
        }
        // A TAPE with room for twenty more, and for none: each is told by how many it has.
        List<String> feeds = Limits.times(19, Run.feedOf(BLANKS, 0));
        LIMITS.all(LIMITS.run(feeds), "rules 381", -2, "rules 380", 0);
        LIMITS.all(LIMITS.run(feeds), "feed 0 0 0 0 0", 400, "feed 0 0 0 0 0", -1, "feed 0 0 0 0 0", -1, "rules 400", -1,
            "fault 0", 1, "fault 1", 380);
    }

    private static void highestFirst() {
        LIMITS.sentence("Twenty bytes come behind the TAPE, four of each number, the highest first");
        for (int at = 0; at <= 11; at++) {
            Run run = LIMITS.run();
            String text = " ".repeat(at) + "doubts 7;";
            LIMITS.all(run, Run.feedOf(text, 0), 20, "rules " + (at + 8), -1, "fault 1", at + 8, Run.feedOf(text, 0), 20,
                "rules " + (at + 9), 1, "count 6", 7);
        }
        // Bytes of 128 and more, which are below 0 as Java's: none of them is a TOKEN, wherever it stands in its number.
        for (int at = 0; at < 20; at++) {
            for (char sign : new char[] {128, 255, 138, 160}) {
                StringBuilder text = new StringBuilder(BLANKS);
                text.setCharAt(at, sign);
                fault(text.toString(), 1, at);
            }
        }
        LIMITS.all(LIMITS.run(), "feed " + Limits.MIN + " 0 0 0 0", 20, "rules 4", -1, "fault 1", 0);
        LIMITS.all(LIMITS.run(), "feed 538976288 " + Limits.MAX + " 0 0 0", 20, "rules 20", -1, "fault 1", 4);
    }

    private static void firstBytes() {
        LIMITS.sentence("The TAPE's first n bytes (it is empty then) are the RULES: how many LINES");
        String text = "doubts 3;binds rank;overrules own+1;";
        int[] good = {0, 9, 20, 36, 40};
        int[] lines = {0, 1, 2, 3, 3};
        int at = 0;
        for (int n = 0; n <= 40; n++) {
            Run run = LIMITS.run();
            run.feed(text);
            boolean whole = at < good.length && good[at] == n || n > 36;
            LIMITS.due(run, "rules " + n, whole ? lines[Math.min(at, 4)] : -1);
            LIMITS.due(run, "fault 0", whole ? 0 : 1);
            LIMITS.all(run, "rules 1", -2, "feed 0 0 0 0 0", 20);
            at += at < good.length - 1 && good[at] == n ? 1 : 0;
        }
    }

    private static void notSoManyBytes() {
        LIMITS.sentence("-2, and the TAPE stays: there are not so many, n is below 0.");
        for (int n : Limits.bad(-1, -2, -20, 401)) {
            LIMITS.refused(List.of(), "rules " + n, -2);
            LIMITS.refused(SOME, "rules " + n, -2);
            LIMITS.refused(FULL, "rules " + n, -2);
        }
        LIMITS.refused(List.of(), "rules 1", -2);
        LIMITS.refused(SOME, "rules 21", -2);
        LIMITS.refused(SOME, "rules 400", -2);
        LIMITS.all(LIMITS.run(SOME), "rules 21", -2, "rules -1", -2, "fault 0", 3, "fault 1", 8, "count 6", 1, "rules 20", 1,
            "count 6", 7, "rules 20", -2, "fault 0", 0);
    }

    private static void emptyBehindRules() {
        LIMITS.sentence("(it is empty then)");
        LIMITS.all(LIMITS.run(), "rules 0", 0, "feed 0 0 0 0 0", 20, "rules 0", 0, "rules 1", -2, "feed 0 0 0 0 0", 20);
        LIMITS.all(LIMITS.run(FULL), "rules 0", 0, "rules 1", -2, "feed 0 0 0 0 0", 20);
        LIMITS.all(LIMITS.run(), "text #", -1, "rules 1", -2, "rules 0", 0, "fault 0", 0, "fault 1", -1);
        // Nor is anything left of a text with a FAULT: its '(' are open no more, its signs wait for nothing.
        LIMITS.all(LIMITS.run("court 0 0", "point", "kase 0 0 1 0"), "text binds ((((((((not 1+", -1,
            "text binds ((((((((0))))))));", 1, "binds 0 0 0 0 0 0", 0, "text binds not not 0 or not 1*(", -1,
            "text binds 1;", 1, "binds 0 0 0 0 0 0", 1, "count 5", 1);
    }

    private static void linesOfAText() {
        LIMITS.sentence("RULES, a TEXT: { LINE ';' }");
        taken("", 0, 0);
        taken(" ", 0, 0);
        taken("\n", 0, 0);
        taken(" ".repeat(400), 0, 0);
        taken("binds 1;", 1, 1);
        taken("overrules 1;binds 1;", 2, 2);
        taken("overrules 1;binds 1;doubts 1;", 3, 2);
        fault("overrules 1;binds 1;doubts 1;doubts 1;", 3, 29);
        fault(";", 1, 0);
        fault("binds 1;;", 1, 8);
        fault("binds 1; binds", 3, 9);
        fault("binds;", 1, 5);
        fault("overrules ;", 1, 10);
        fault("doubts;", 1, 6);
        fault("doubts ;doubts 1;", 1, 7);
        fault("binds ();", 1, 7);
        // A text without LINES has none of the RULES before it.
        LIMITS.all(LIMITS.run("text binds 1+1;doubts 9;"), "count 5", 3, "count 6", 9, "rules 0", 0, "count 5", 0,
            "count 6", 2, "rules 0", 0, "count 5", 0, "count 6", 2);
        taken("binds" + " ".repeat(393) + "1;", 1, 1);
    }

    private static void faultOfTheLatest() {
        LIMITS.sentence("Of the latest rules() that was not -2, what 0: its FAULT (0), 1: its place (NONE). NONE for another");
        for (List<String> history : List.of(List.<String>of(), SOME, FULL)) {
            for (int what : Limits.bad(-1, 2)) {
                LIMITS.refused(history, "fault " + what, -1);
            }
        }
        LIMITS.all(LIMITS.run(), "fault 0", 0, "fault 1", -1, "text #", -1, "fault 0", 1, "fault 1", 0, "rules 1", -2,
            "fault 0", 1, "fault 1", 0, "text doubts 10;", -1, "fault 0", 2, "fault 1", 7, "rules -1", -2, "fault 0", 2,
            "text doubts 1;doubts 1;", -1, "fault 0", 3, "fault 1", 9, "rules 0", 0, "fault 0", 0, "fault 1", -1);
    }

    private static void everyByte() {
        LIMITS.sentence("1 a TOKEN that is none; blanks 10, 32");
        for (int sign = 0; sign < 256; sign++) {
            String text = "binds 1" + (char) sign + "1;";
            if (sign == 10 || sign == 32 || sign == ';') {
                // Behind a blank or a ';' the other number can't stand.
                fault(text, 1, 8);
            } else if (sign >= '0' && sign <= '9') {
                taken(text, 1, 1);
            } else if ("+-*/<=>".indexOf(sign) >= 0) {
                taken(text, 1, 3);
            } else {
                fault(text, 1, 7);
            }
            if (sign == 10 || sign == 32) {
                taken((char) sign + "binds" + (char) sign + "1" + (char) sign + ";" + (char) sign, 1, 1);
            }
        }
    }

    private static void wordsAndDigits() {
        LIMITS.sentence("Words: small letters in a row; N: digits; 1 a TOKEN that is none (another word, too)");
        for (String name : new String[] {"rank", "own", "same", "land", "seats", "votes", "age", "doubted"}) {
            taken("binds " + name + ";", 1, 1);
            fault("binds " + name.substring(1) + ";", 1, 6);
            fault("binds " + name.substring(0, name.length() - 1) + ";", 1, 6);
            fault("binds " + name + "a;", 1, 6);
            fault("binds " + name + "z;", 1, 6);
            fault("binds z" + name + ";", 1, 6);
            for (int at = 0; at < name.length(); at++) {
                fault("binds " + name.substring(0, at) + "x" + name.substring(at + 1) + ";", 1, 6);
            }
            fault("binds " + name + name + ";", 1, 6);
            fault("binds " + name + "`;", 1, 6 + name.length());
            fault("binds " + name + "{;", 1, 6 + name.length());
            fault("binds " + name.toUpperCase() + ";", 1, 6);
        }
        for (String word : new String[] {"binds", "overrules", "doubts", "not", "and", "or"}) {
            fault("binds " + word + ";", 1, word.equals("not") ? 9 : 6);
            fault(word + "s 1;", 1, 0);
            fault("x" + word.substring(1) + " 1;", 1, 0);
            fault(word.substring(0, word.length() - 1) + "x 1;", 1, 0);
            fault("binds 1 " + word + "a 1;", 1, 8);
        }
        taken("binds1;overrules(own);doubts2;", 3, 2);
        taken("binds 1and 2or 3;", 1, 5);
        fault("binds 1 and2 or3and;", 1, 19);
        taken("binds not(1)and(2)or(3);", 1, 6);
        fault("binds not1and2or3notx;", 1, 17);
        fault("binds notown;", 1, 6);
        fault("binds own and same orland;", 1, 19);
        fault("bindsrank;", 1, 0);
        fault("binds rank9;", 1, 10);
        fault("binds 9rank;", 1, 7);
        fault("binds /;", 1, 6);
        fault("binds :;", 1, 6);
        fault("z".repeat(400), 1, 0);
        fault("1".repeat(400), 1, 0);
    }

    private static void signsOfTwo() {
        LIMITS.sentence("a = (or > behind <) right behind < or > belongs to it.");
        for (String sign : new String[] {"<", "<=", "=", "<>", ">=", ">"}) {
            taken("binds 1" + sign + "2;", 1, 3);
            taken("binds 1 " + sign + "\n2;", 1, 3);
            for (String behind : new String[] {"<", "=", ">"}) {
                boolean belongs = sign.equals("<") && !behind.equals("<") || sign.equals(">") && behind.equals("=");
                if (!belongs) {
                    fault("binds 1" + sign + behind + "2;", 1, 7 + sign.length());
                }
                fault("binds 1" + sign + " " + behind + "2;", 1, 8 + sign.length());
                fault("binds 1" + sign + "\n" + behind + "2;", 1, 8 + sign.length());
            }
            // Cut by n behind its first or last sign: what more must come would stand at the length.
            fault("binds 1" + sign, 1, 7 + sign.length());
        }
        LIMITS.all(LIMITS.run(Run.feedOf("binds 1<=2;", 0)), "rules 8", -1, "fault 0", 1, "fault 1", 8);
        LIMITS.all(LIMITS.run(Run.feedOf("binds 1<=2;", 0)), "rules 9", -1, "fault 0", 1, "fault 1", 9);
    }

    private static void moreMustCome() {
        LIMITS.sentence("or can't stand there (the length, if more must come)");
        for (String text : new String[] {"binds", "binds ", "binds 1", "binds 1\n ", "binds (", "binds (1", "binds (1)",
            "binds not", "binds not not ", "binds 1 and", "binds 1 or ", "binds 1+", "binds 1*(2", "binds 1<", "doubts",
            "doubts ", "doubts 9", "doubts 9  ", "overrules", "overrules own", "binds 1;overrules", "binds 1;doubts 2"}) {
            fault(text, 1, text.length());
        }
        fault(" ".repeat(395) + "binds", 1, 400);
        fault("binds 1" + " ".repeat(393), 1, 400);
        taken(" ".repeat(392) + "binds 1;", 1, 1);
    }

    private static void numbers() {
        LIMITS.sentence("N 0 .. 9999, of doubts 1 .. 9; 2 too much (at it): a number beyond what is said");
        taken("binds 0;", 1, 1);
        taken("binds 9999;", 1, 1);
        fault("binds 10000;", 2, 6);
        fault("binds 99999;", 2, 6);
        fault("binds 2147483648;", 2, 6);
        fault("binds 4294967296;", 2, 6);
        fault("binds 18446744073709551616;", 2, 6);
        fault("binds 1+10000;", 2, 8);
        fault("overrules (9999<10000);", 2, 16);
        fault("binds " + "9".repeat(393) + ";", 2, 6);
        taken("binds " + "0".repeat(393) + ";", 1, 1);
        taken("binds " + "0".repeat(389) + "9999;", 1, 1);
        fault("binds " + "0".repeat(388) + "10000;", 2, 6);
        for (int n = 0; n <= 11; n++) {
            Run run = LIMITS.run();
            boolean good = n >= 1 && n <= 9;
            LIMITS.all(run, "text doubts " + n + ";", good ? 1 : -1, "fault 0", good ? 0 : 2, "fault 1", good ? -1 : 7,
                "count 6", good ? n : 2);
        }
        taken("doubts 01;", 1, 0);
        fault("doubts 00;", 2, 7);
        fault("doubts 9999;", 2, 7);
        fault("doubts 4294967297;", 2, 7);
        fault("binds 1;doubts 10", 2, 15);
    }

    private static void ninthOpen() {
        LIMITS.sentence("2 too much (at it): a ninth '(' open");
        for (int open = 1; open <= 8; open++) {
            taken("binds " + "(".repeat(open) + "1" + ")".repeat(open) + ";", 1, 1);
        }
        fault("binds (((((((((1)))))))));", 2, 14);
        fault("binds (((((((((((", 2, 14);
        fault("binds ( ( ( ( ( ( ( ( ( 1", 2, 22);
        // Those that are closed are open no more, in one LINE and in the next.
        String eight = "((((((((1))))))))";
        taken("binds " + eight + "+" + eight + ";overrules " + eight + ";", 2, 4);
        fault("binds " + eight + "+(" + eight + ");", 2, 32);
        taken("binds (((((((1+(2))))))))+(3);", 1, 5);
        taken("binds not(not(not(not(not(not(not(not(1))))))));", 1, 9);
        fault("binds not(not(not(not(not(not(not(not(not(1)))))))));", 2, 41);
    }

    private static void knots() {
        LIMITS.sentence("a 65th KNOT of the whole text (N, NAMES, signs, not, and, or in E: one each)");
        for (String knot : new String[] {"+1", "-1", "*1", "/1", " and 1", " or 1", "+age"}) {
            String most = "binds 1" + knot.repeat(31);
            taken(most + ";", 1, 63);
            // The sign is the 64th KNOT, so the last sign of the text, or its NAME, is at the 65th.
            fault(most + knot + ";", 2, most.length() + knot.length() - (knot.endsWith("age") ? 3 : 1));
        }
        for (String sign : new String[] {"+", "-", "*", "/", "<", "<=", "=", "<>", ">=", ">", " and ", " or "}) {
            // 63 KNOTS, then a sign is the 64th and what stands behind it the 65th; with 64, the sign itself.
            String blank = sign.startsWith(" ") ? " " : "";
            String odd = "binds 1" + "+1".repeat(31);
            fault(odd + sign + "1;", 2, odd.length() + sign.length());
            fault(odd + sign + "own;", 2, odd.length() + sign.length());
            String even = "binds not 1" + "+1".repeat(31);
            taken(even + ";", 1, 64);
            fault(even + sign + "1;", 2, even.length() + blank.length());
        }
        taken("binds " + "not ".repeat(63) + "1;", 1, 64);
        fault("binds " + "not ".repeat(64) + "1;", 2, 6 + 64 * 4);
        fault("binds " + "not ".repeat(65) + "1;", 2, 6 + 64 * 4);
        // '(' , ')', ';', the words of the LINES and the N of doubts are none.
        String most = "binds (((((((not 1" + "+1".repeat(31) + ")))))))";
        taken(most + ";doubts 9;", 2, 64);
        fault(most + ";overrules 1;", 2, most.length() + 11);
        fault(most + ";overrules (same);", 2, most.length() + 12);
        fault(most + ";overrules not 1;", 2, most.length() + 11);
        // 31 of one LINE and 33 of the other are 64 of the whole text.
        String half = "1" + "+1".repeat(15);
        taken("doubts 9;overrules " + half + ";binds not not " + half + ";", 3, 64);
        fault("overrules " + half + ";binds not not " + half + " and 1;", 2, 10 + 31 + 1 + 14 + 31 + 1);
        fault("overrules " + half + ";binds not " + half + " and 1;", 2, 10 + 31 + 1 + 10 + 31 + 5);
        holds("not ".repeat(55) + "((((((((" + "not ".repeat(8) + "0))))))))", true);
        holds("not ".repeat(54) + "((((((((" + "not ".repeat(8) + "0))))))))", false);
        holds("not ".repeat(55) + "((((((((" + "not ".repeat(7) + "0))))))))", false);
        // The KNOTS of RULES before don't count.
        LIMITS.all(LIMITS.run("text " + most + ";"), "count 5", 64, "text binds 1;", 1, "count 5", 1, "text " + most + ";",
            1, "count 5", 64);
    }

    private static void toldAlready() {
        LIMITS.sentence("3 a LINE told already (at its word)");
        fault("binds 1;binds 1;", 3, 8);
        fault("overrules 1; overrules 1;", 3, 13);
        fault("doubts 1;\n\ndoubts 1;", 3, 11);
        fault("binds 1;overrules 1;doubts 1;binds 1;", 3, 29);
        fault("binds 1;binds", 3, 8);
        fault("binds 1;bindsa 1;", 1, 8);
        // Told by the RULES before, not by these: that is no FAULT.
        LIMITS.all(LIMITS.run("text binds 1;doubts 1;"), "text binds 1;doubts 1;", 2);
        LIMITS.all(LIMITS.run("text binds 1;binds 1;"), "text binds 1;", 1);
    }

    private static void theFirstAndTheLeast() {
        LIMITS.sentence("FAULTS, the first along the text (of one place the least), with its place");
        String most = "binds not 1" + "+1".repeat(31) + ";";
        fault("binds 10000 1;", 2, 6);
        fault("binds 1 10000;", 1, 8);
        fault("binds ((((((((1(", 1, 15);
        fault("binds (((((((((#", 2, 14);
        fault(most + "overrules +1;", 1, most.length() + 10);
        fault(most + "overrules 10000;", 2, most.length() + 10);
        fault(most + "overrules binds;", 1, most.length() + 10);
        fault(most + "overrules ;", 1, most.length() + 10);
        fault(most + "overrules", 1, most.length() + 9);
        fault(most + "binds 1;", 3, most.length());
        fault(most + "overrules ((((((((1", 2, most.length() + 18);
        fault(most + "overrules (((((((((1", 2, most.length() + 18);
        fault("binds 1;binds 10000;", 3, 8);
        fault("binds 10000;binds 1;", 2, 6);
        fault("binds binds;binds 1;", 1, 6);
        fault("doubts 1;doubts", 3, 9);
        fault("doubts 10;doubts 1;", 2, 7);
        fault("doubts 10", 2, 7);
        fault("doubts own 10;", 1, 7);
        fault("doubts 1 10;", 1, 9);
        fault("binds not 1" + "+1".repeat(31) + " not 1;", 1, 74);
        fault("binds not 1" + "+1".repeat(31) + " 1;", 1, 74);
        fault("binds not 1" + "+1".repeat(31) + "(1);", 1, 73);
        fault("binds 1=1" + "+1".repeat(30) + "=1;", 1, 69);
        fault("binds not 1=1" + "+1".repeat(30) + "=1;", 1, 73);
    }

    /** Whether E holds, as the LINE binds, of a CASE of RANK 7 with 2 VOTES of 3, 20 DAYS old, against RANK 4. */
    private static void holds(String e, boolean want) {
        Run run = LIMITS.run("court 7 1", "court 4 2", "point", "days 30", "kase 0 10 3 0", "holds 0 0 0 1 false",
            "holds 0 1 0 0 false");
        LIMITS.all(run, "text binds " + e + ";", 1, "binds 0 0 1 1 30 30", want ? 1 : 0);
    }

    private static void valuesAndErrors() {
        LIMITS.sentence("ERROR: / by 0, a value above 10 to the 12 or below 0 by more than that. E holds if not 0, no ERROR");
        String million = "1000*1000";
        String most = "(" + million + "*" + million + ")";
        holds(most, true);
        holds(most + "+0", true);
        holds(most + "+1", false);
        holds(most + "+1-1", false);
        holds(most + "-1=" + most + "-1", true);
        holds("(0-" + most + ")", true);
        holds("(0-" + most + "-1)", false);
        holds("0-" + most + "-1<0", false);
        holds("0-" + most + "+1<0", true);
        holds(most + "-(0-1)", false);
        holds("(0-" + most + ")-1 or 1", false);
        holds(most + "*1=" + most, true);
        holds(most + "*(0-1)=0-" + most, true);
        holds("(0-" + most + ")*(0-1)=" + most, true);
        holds(most + "*2 or 1", false);
        holds(most + "*(0-2) or 1", false);
        holds(most + "*" + most + " or 1", false);
        // Products that would go round behind the greatest long, to 0 and to 1 below 0.
        holds("(256*256*256*256)*(256*256*256*256) or 1", false);
        holds("(256*256*256*256)*(256*256*256*256)=0", false);
        holds("(256*256*256*256)*(0-256*256*256*256) or 1", false);
        holds("(256*256*256*128)*(0-256*256*256*256) or 1", false);
        holds("((8192*16)*(8192*16))*((4096*8)*(4096*8)) or 1", false);
        holds(most + "*0=0", true);
        holds("0*" + most + "=0", true);
        holds(most + "/" + most + "=1", true);
        holds(most + "/1000/1000/1000=1000", true);
        holds("9999*9999*9999*9999 or 1", false);
        holds("9999*9999*9999+9999*9999*3+9999*3+1=" + most, true);
        holds("9999*9999*9999+9999*9999*3+9999*3+2 or 1", false);
        holds("1/0 or 1", false);
        holds("0/0 or 1", false);
        holds("1/(rank-7) or 1", false);
        holds("1/(rank-6)", true);
        holds("0/5=0", true);
        holds("1/2=0", true);
        holds("(0-1)/2=0", true);
        holds("(0-3)/2=0-1", true);
        holds("3/(0-2)=0-1", true);
        holds("(0-3)/(0-2)=1", true);
        holds("0", false);
        holds("1-1", false);
        holds("1-2", true);
        holds("0-9999", true);
        holds("9999", true);
    }

    private static void bothSides() {
        LIMITS.sentence("comparisons, and, or, not are 1 or 0 (what isn't 0 is as 1, both sides are worked out)");
        holds("0 and 1/0 or 1", false);
        holds("1 or 1/0", false);
        holds("1/0 or 1", false);
        holds("not (1/0)", false);
        holds("(1/0)=(1/0) or 1", false);
        holds("(1/0)<>1 or 1", false);
        for (String value : new String[] {"1", "2", "9999", "(0-1)"}) {
            holds("(" + value + " and " + value + ")=1", true);
            holds("(" + value + " or 0)=1", true);
            holds("(0 or " + value + ")=1", true);
            holds("(not " + value + ")=0", true);
            holds("(not not " + value + ")=1", true);
            holds("(0 and " + value + ")=0", true);
            holds("(" + value + " and 0)=0", true);
        }
        holds("(0 or 0)=0", true);
        holds("(not 0)=1", true);
        for (int a = 0; a <= 2; a++) {
            holds("(" + a + "<1)=" + (a < 1 ? 1 : 0), true);
            holds("(" + a + "<=1)=" + (a <= 1 ? 1 : 0), true);
            holds("(" + a + "=1)=" + (a == 1 ? 1 : 0), true);
            holds("(" + a + "<>1)=" + (a != 1 ? 1 : 0), true);
            holds("(" + a + ">=1)=" + (a >= 1 ? 1 : 0), true);
            holds("(" + a + ">1)=" + (a > 1 ? 1 : 0), true);
            holds("(" + a + "-2<0-1)=" + (a < 1 ? 1 : 0), true);
        }
    }

    private static void namesAtTheirEnds() {
        LIMITS.sentence("rank, own: the RANK; same, land: 1 or 0; seats: its JUDGES; votes, age, doubted");
        for (int seats = 1; seats <= 3; seats++) {
            for (int votes = 0; votes <= seats; votes++) {
                List<String> calls = new ArrayList<>(List.of("court 0 0", "court 9 0", "point", "days 9999",
                    "kase 0 0 " + seats + " 0", "text binds seats=" + seats + " and votes=" + votes + " and age=9999;"));
                for (int judge = 0; judge < votes; judge++) {
                    calls.add("holds 0 " + judge + " 0 0 false");
                }
                LIMITS.all(LIMITS.run(calls), "binds 0 0 1 0 9999 9999", 1, "binds 0 0 1 0 9998 9999", 0,
                    "text binds age=0 and rank=0 and own=9;", 1, "binds 0 0 1 0 0 9999", 1, "binds 0 0 1 0 1 9999", 0);
            }
        }
        LIMITS.all(LIMITS.run("court 0 0", "court 0 0", "court 0 1", "point", "kase 0 0 1 0"), "text binds same=1;", 1,
            "binds 0 0 0 0 0 0", 1, "binds 0 0 1 0 0 0", 0, "text binds same=0;", 1, "binds 0 0 1 0 0 0", 1,
            "binds 0 0 2 0 0 0", 1, "binds 0 0 0 0 0 0", 0, "text binds land=1;", 1, "binds 0 0 1 0 0 0", 1,
            "binds 0 0 2 0 0 0", 0, "text binds land=0;", 1, "binds 0 0 2 0 0 0", 1, "binds 0 0 0 0 0 0", 0);
        List<String> calls = new ArrayList<>(List.of("court 0 0", "point", "kase 0 0 1 0"));
        for (int kase = 1; kase < 32; kase++) {
            calls.add("kase 0 0 1 0");
            calls.add("treats 3 " + kase + " 0 0");
        }
        LIMITS.all(LIMITS.run(calls), "text binds doubted=31;", 1, "binds 0 0 0 0 0 0", 1, "binds 1 0 0 0 0 0", 0,
            "text binds doubted=0;", 1, "binds 1 0 0 0 0 0", 1, "binds 0 0 0 0 0 0", 0);
    }

    private static void withoutALine() {
        LIMITS.sentence("Without a LINE: binds and overrules land and (rank > own or same); doubts 2.");
        List<String> courts = List.of("court 5 0", "court 4 0", "court 5 0", "court 6 0", "court 6 1", "court 5 1", "point",
            "days 2", "kase 1 0 1 0", "kase 0 1 1 0", "kase 2 1 1 0", "kase 3 1 1 0", "kase 4 1 1 0");
        int[] bound = {1, 1, 0, 0, 0, 0};
        for (String text : new String[] {"", "overrules 0;", "doubts 9;"}) {
            Run run = LIMITS.run(courts);
            run.call("text binds 0;overrules 0;doubts 9;");
            run.call("text " + text);
            for (int court = 0; court < 6; court++) {
                LIMITS.due(run, "binds 1 0 " + court + " 0 2 2", bound[court]);
            }
            LIMITS.due(run, "count 6", text.startsWith("doubts") ? 9 : 2);
        }
        // Overruled by a greater RANK, by the COURT itself; not by an equal or lesser RANK, nor from another LAND.
        List<String> treated = List.of("court 5 0", "court 4 0", "court 5 0", "court 6 0", "court 6 1", "point", "days 2",
            "kase 0 0 1 0", "kase 0 1 1 0", "kase 1 1 1 0", "kase 2 1 1 0", "kase 3 1 1 0", "kase 4 1 1 0",
            "text overrules 0;", "text binds 0;");
        int[] overrules = {0, 1, 0, 0, 1, 0};
        for (int kase = 1; kase <= 5; kase++) {
            LIMITS.all(LIMITS.run(treated), "treats 2 " + kase + " 0 0", 0, "asked 0 0 2 2 2", overrules[kase]);
        }
    }
}
