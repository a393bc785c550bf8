/** Promises 2, 3 and 4: the TAPE, the RULES and their FAULTS; what an E answers is asked by binds(). */
public final class RulesTest {
    private static final Checks CHECKS = new Checks();

    public static void main(String[] args) {
        tape();
        rulesAndTape();
        tokens();
        grammar();
        tooMuch();
        toldAlready();
        values();
        names();
        errors();
        missingLines();
        CHECKS.finish();
    }

    private static void tape() {
        ReportedCases x = new ReportedCases();
        for (int i = 1; i <= 20; i++) {
            CHECKS.due("feed " + i, x.feed(0, 0, 0, 0, 0), 20 * i);
        }
        CHECKS.due("feed beyond 400", x.feed(0, 0, 0, 0, 0), -1);
        CHECKS.due("rules(401)", x.rules(401), -2);
        CHECKS.due("rules(400)", x.rules(400), -1);
        CHECKS.due("feed behind rules", x.feed(-1, Integer.MIN_VALUE, 7, 8, 9), 20);
        CHECKS.due("fault place", x.fault(1), 0);
        CHECKS.due("rules(20) of wild bytes", x.rules(20), -1);
        // The highest byte of a number comes first: "doub", "ts 3", ";   ".
        x.feed(0x646f7562, 0x74732033, 0x3b202020, 0x20202020, 0x20202020);
        CHECKS.due("rules(9)", x.rules(9), 1);
        CHECKS.due("doubts", x.count(6), 3);
    }

    private static void rulesAndTape() {
        ReportedCases x = new ReportedCases();
        CHECKS.due("fault(0) at first", x.fault(0), 0);
        CHECKS.due("fault(1) at first", x.fault(1), -1);
        CHECKS.due("fault(-1)", x.fault(-1), -1);
        CHECKS.due("fault(2)", x.fault(2), -1);
        CHECKS.due("rules(1) of nothing", x.rules(1), -2);
        CHECKS.due("rules(0) of nothing", x.rules(0), 0);
        Checks.feed(x, "doubts 4;");
        CHECKS.due("rules(21)", x.rules(21), -2);
        CHECKS.due("rules(-1)", x.rules(-1), -2);
        CHECKS.due("the tape stays", x.rules(9), 1);
        CHECKS.due("doubts", x.count(6), 4);
        Checks.feed(x, "doubts 5;doubts 6;");
        CHECKS.due("rules with a fault", x.rules(18), -1);
        CHECKS.due("the ones before stay", x.count(6), 4);
        CHECKS.due("the tape is empty", x.rules(1), -2);
        CHECKS.due("-2 leaves the fault", x.fault(0), 3);
        CHECKS.due("-2 leaves the place", x.fault(1), 9);
        Checks.feed(x, "doubts 5;doubts 6;");
        CHECKS.due("the first bytes alone", x.rules(9), 1);
        CHECKS.due("fault is gone", x.fault(0), 0);
        CHECKS.due("the rest of the tape is gone", x.feed(0, 0, 0, 0, 0), 20);
        x.rules(0);
        for (String cut : new String[] {"doubts 1|2;", "doub|ts 1;", "binds rank|s;", "binds 1<|=2;", "binds 1 |+2;"}) {
            int end = cut.indexOf('|');
            Checks.feed(x, cut.replace("|", ""));
            CHECKS.due("cut as " + cut, x.rules(end), -1);
            CHECKS.due("fault of " + cut, x.fault(0), 1);
            CHECKS.due("place of " + cut, x.fault(1), end == 4 ? 0 : end);
        }
        Checks.feed(x, " ".repeat(391) + "doubts 99");
        CHECKS.due("a number up to the tape's end", x.rules(400), -1);
        CHECKS.due("its fault", x.fault(0) * 1000 + x.fault(1), 2398);
    }

    private static void tokens() {
        CHECKS.refused("#", 1, 0);
        CHECKS.refused("binds\t1;", 1, 5);
        CHECKS.refused("binds 1\r;", 1, 7);
        CHECKS.refused("Binds 1;", 1, 0);
        CHECKS.refused("bindsrank;", 1, 0);
        CHECKS.refused("binds ranks;", 1, 6);
        CHECKS.refused("binds rankz;", 1, 6);
        CHECKS.refused("binds zrank;", 1, 6);
        CHECKS.refused("binds arank;", 1, 6);
        CHECKS.refused("binds binds;", 1, 6);
        CHECKS.refused("binds doubts;", 1, 6);
        CHECKS.refused("binds \u00e9;", 1, 6);
        CHECKS.refused("binds rank5;", 1, 10);
        CHECKS.refused("binds 5rank;", 1, 7);
        CHECKS.refused("binds 1< =2;", 1, 9);
        CHECKS.refused("binds 1> =2;", 1, 9);
        CHECKS.refused("binds 1< >2;", 1, 9);
        CHECKS.refused("binds 1=>2;", 1, 8);
        CHECKS.refused("binds 1==2;", 1, 8);
        CHECKS.refused("binds 1<>=2;", 1, 9);
        CHECKS.taken("\n binds\n1<>2 ;\n", 1, 3);
        CHECKS.taken("binds1;doubts1;", 2, 1);
        CHECKS.taken("", 0, 0);
        CHECKS.taken(" \n", 0, 0);
    }

    private static void grammar() {
        CHECKS.refused(";", 1, 0);
        CHECKS.refused("doubts 1;;", 1, 9);
        CHECKS.refused("doubts 1", 1, 8);
        CHECKS.refused("doubts 1  ", 1, 10);
        CHECKS.refused("doubts", 1, 6);
        CHECKS.refused("doubts rank;", 1, 7);
        CHECKS.refused("doubts (1);", 1, 7);
        CHECKS.refused("doubts 1+1;", 1, 8);
        CHECKS.refused("binds;", 1, 5);
        CHECKS.refused("binds 1", 1, 7);
        CHECKS.refused("binds 1+", 1, 8);
        CHECKS.refused("binds -1;", 1, 6);
        CHECKS.refused("binds ();", 1, 7);
        CHECKS.refused("binds (1;", 1, 8);
        CHECKS.refused("binds 1);", 1, 7);
        CHECKS.refused("binds (1)(2);", 1, 9);
        CHECKS.refused("binds (1", 1, 8);
        CHECKS.refused("binds 1 2;", 1, 8);
        CHECKS.refused("binds 1<2<3;", 1, 9);
        CHECKS.refused("binds not 1<2=3;", 1, 13);
        CHECKS.refused("binds 1<2+3>4;", 1, 11);
        CHECKS.refused("binds 1+not 2;", 1, 8);
        CHECKS.refused("binds 1<not 2;", 1, 8);
        CHECKS.refused("binds 1 not 2;", 1, 8);
        CHECKS.refused("binds or 1;", 1, 6);
        CHECKS.refused("binds 1 or;", 1, 10);
        CHECKS.refused("binds 1 and or 2;", 1, 12);
        CHECKS.taken("binds (1<2)<3;", 1, 5);
        CHECKS.taken("binds 1<2 and 3<4 or not not 5=6;", 1, 13);
        CHECKS.taken("binds 1+(not 2)*(3 or 4);", 1, 8);
        CHECKS.taken("overrules 1;doubts 9;binds own;", 3, 2);
    }

    private static void tooMuch() {
        CHECKS.taken("binds 9999;", 1, 1);
        CHECKS.taken("binds 0000009999;", 1, 1);
        CHECKS.refused("binds 10000;", 2, 6);
        CHECKS.refused("binds 99999999999999999999;", 2, 6);
        CHECKS.refused("binds 1 10000;", 1, 8);
        CHECKS.refused("doubts 0;", 2, 7);
        CHECKS.refused("doubts 10;", 2, 7);
        CHECKS.refused("doubts 4294967297;", 2, 7);
        CHECKS.taken("doubts 009;", 1, 0);
        CHECKS.taken("binds ((((((((1))))))))+((((((((1))))))));", 1, 3);
        CHECKS.refused("binds (((((((((1)))))))));", 2, 14);
        CHECKS.refused("binds ((((((((1(", 1, 15);
        String most = "binds 1" + "+1".repeat(31) + ";";
        CHECKS.taken(most, 1, 63);
        CHECKS.taken("binds not 1" + "+1".repeat(31) + ";", 1, 64);
        CHECKS.refused("binds 1" + "+1".repeat(32) + ";", 2, 70);
        CHECKS.refused("binds not 1" + "+1".repeat(32) + ";", 2, 73);
        CHECKS.taken(most + "overrules 1;doubts 9;", 3, 64);
        CHECKS.refused(most + "overrules 1=1;", 2, 81);
        CHECKS.refused(most + "overrules 1 1;", 1, 82);
        CHECKS.refused(most + "overrules not not 1;", 2, 84);
        CHECKS.refused(most + "overrules not same;", 2, 84);
        CHECKS.refused(most + "overrules 1 and 1;", 2, 82);
        CHECKS.refused(most + "overrules 1 or 1;", 2, 82);
    }

    private static void toldAlready() {
        CHECKS.refused("doubts 1;doubts 1;", 3, 9);
        CHECKS.refused("overrules 1;binds 1; overrules #;", 3, 21);
        CHECKS.refused("binds 1;binds", 3, 8);
        CHECKS.refused("binds 1 1;binds 1;", 1, 8);
    }

    /** Whether E holds as the binds LINE, of a CASE of 3 JUDGES, 2 VOTES, 1 DOUBT, RANK 7, 20 DAYS old, against RANK 4. */
    private static void holds(String e, boolean want) {
        ReportedCases x = new ReportedCases();
        x.court(7, 1);
        x.court(4, 2);
        x.court(4, 1);
        x.point();
        x.days(30);
        x.kase(0, 10, 3, 0);
        x.holds(0, 0, 0, 1, false);
        x.holds(0, 1, 0, 0, false);
        x.kase(1, 11, 1, 0);
        x.treats(3, 1, 0, 0);
        CHECKS.due("rules of " + e, Checks.rules(x, "binds " + e + ";"), 1);
        CHECKS.due(e, x.binds(0, 0, 1, 1, 30, 30), want ? 1 : 0);
    }

    private static void values() {
        holds("1", true);
        holds("0", false);
        holds("7-9", true);
        holds("7-9=0-2", true);
        holds("2+3*4=14", true);
        holds("(2+3)*4=20", true);
        holds("20-5-3=12", true);
        holds("100/5/2=10", true);
        holds("100/5*2=40", true);
        holds("(0-7)/2=0-3", true);
        holds("7/(0-2)=0-3", true);
        holds("1<2", true);
        holds("2<2", false);
        holds("2<=2", true);
        holds("3<=2", false);
        holds("2=2", true);
        holds("2<>2", false);
        holds("1<>2", true);
        holds("2>=2", true);
        holds("1>=2", false);
        holds("2>2", false);
        holds("3>2", true);
        holds("3<>2", true);
        for (String so : new String[] {"1<2", "1<=2", "2=2", "1<>2", "2>=1", "2>1"}) {
            holds("(" + so + ")=1", true);
            holds("(not " + so + ")=0", true);
        }
        holds("not 0", true);
        holds("not 5", false);
        holds("(not 5)=0", true);
        holds("(not not 5)=1", true);
        holds("not 1=2", true);
        holds("not 1 and 0", false);
        holds("not (1 and 0)", true);
        holds("1 or 0 and 0", true);
        holds("(1 or 0) and 0", false);
        holds("(2 and 3)=1", true);
        holds("(2 or 0)=1", true);
        holds("0 or 0", false);
        holds("5 and 0", false);
        holds("not ".repeat(63) + "0", true);
        holds("not ".repeat(62) + "0", false);
        holds("not ".repeat(55) + "((((((((" + "not ".repeat(8) + "0))))))))", true);
        holds("not ".repeat(54) + "((((((((" + "not ".repeat(8) + "0))))))))", false);
    }

    private static void names() {
        holds("rank=7", true);
        holds("own=4", true);
        holds("same=0", true);
        holds("land=0", true);
        holds("seats=3", true);
        holds("votes=2", true);
        holds("age=20", true);
        holds("doubted=1", true);
        ReportedCases x = new ReportedCases();
        x.court(3, 2);
        x.court(3, 2);
        x.point();
        x.kase(0, 0, 1, 0);
        Checks.rules(x, "binds same=1 and land=1;");
        CHECKS.due("same of the COURT itself", x.binds(0, 0, 0, 0, 0, 0), 1);
        CHECKS.due("same of another one alike", x.binds(0, 0, 1, 0, 0, 0), 0);
        Checks.rules(x, "binds land=1 and same=0;");
        CHECKS.due("land of another one", x.binds(0, 0, 1, 0, 0, 0), 1);
    }

    private static void errors() {
        String million = "1000*1000";
        holds("1/0", false);
        holds("1/0 or 1", false);
        holds("1 or 1/0", false);
        holds("not (1/0)", false);
        holds("not (0 and 1/(rank-7))", false);
        holds(million + "*" + million, true);
        holds(million + "*" + million + "+1 or 1", false);
        holds(million + "*" + million + "+1-1", false);
        holds("0-" + million + "*" + million + "<0", true);
        holds("0-" + million + "*" + million + "-1<0", false);
        holds("1+" + million + "*" + million, false);
        holds("9999*9999*9999*9999*9999*9999*9999 or 1", false);
        holds("(" + million + "*" + million + ")*(" + million + "*" + million + ")<>1", false);
        holds("(0-" + million + "*" + million + ")*(0-1)=" + million + "*" + million, true);
        holds("0*(" + million + "*" + million + ")=0", true);
    }

    private static void missingLines() {
        ReportedCases x = new ReportedCases();
        x.court(5, 0);
        x.court(4, 0);
        x.court(4, 0);
        x.court(9, 1);
        x.point();
        for (int court = 0; court < 4; court++) {
            x.kase(court, 0, 1, 0);
        }
        Checks.rules(x, "overrules 0;");
        CHECKS.due("of a greater RANK", x.binds(0, 0, 1, 0, 0, 0), 1);
        CHECKS.due("of the same COURT", x.binds(1, 0, 1, 0, 0, 0), 1);
        CHECKS.due("of an equal RANK", x.binds(1, 0, 2, 0, 0, 0), 0);
        CHECKS.due("of a lesser RANK", x.binds(1, 0, 0, 0, 0, 0), 0);
        CHECKS.due("of another LAND", x.binds(3, 0, 0, 0, 0, 0), 0);
        CHECKS.due("doubts", x.count(6), 2);
        x.treats(2, 1, 0, 0);
        CHECKS.due("overruled by a LINE", x.asked(0, 0, 2, 0, 0), 0);
        Checks.rules(x, "binds 0;");
        CHECKS.due("overruled by a lesser RANK", x.asked(0, 0, 2, 0, 0), 0);
        x.kase(0, 0, 1, 0);
        x.treats(2, 4, 1, 0);
        CHECKS.due("overruled by a greater RANK", x.asked(1, 0, 2, 0, 0), 1);
        x.treats(2, 2, 1, 0);
        x.treats(2, 3, 2, 0);
        CHECKS.due("overruled from another LAND", x.asked(2, 0, 2, 0, 0), 0);
        CHECKS.due("KNOTS", x.count(5), 1);
    }
}
