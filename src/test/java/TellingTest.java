import java.util.NoSuchElementException;

/** Promises 1, 5 to 14, 24 and 25: what is told, its limits, and how it is looked at. */
public final class TellingTest {
    private static final Checks CHECKS = new Checks();

    public static void main(String[] args) {
        aNewObject();
        days();
        courts();
        points();
        opposing();
        cases();
        holding();
        treating();
        statutes();
        joining();
        striking();
        mostNotes();
        looking();
        counting();
        CHECKS.finish();
    }

    private static void counts(String when, ReportedCases x, int... want) {
        for (int what = 0; what < want.length; what++) {
            CHECKS.due(when + ", count(" + what + ")", x.count(what), want[what]);
        }
    }

    private static void aNewObject() {
        ReportedCases x = new ReportedCases();
        counts("new", x, 0, 0, 0, 0, 0, 0, 2);
        CHECKS.due("NONE", ReportedCases.NONE, -1);
        CHECKS.due("rules(1) of a new one", x.rules(1), -2);
        CHECKS.due("point 0 is not there", x.joined(0, 0), -1);
        new ReportedCases().point();
        CHECKS.due("another object's POINT is not its", x.count(2), 0);
    }

    private static void days() {
        ReportedCases x = new ReportedCases();
        CHECKS.due("days(0)", x.days(0), 0);
        CHECKS.due("days(-1)", x.days(-1), -1);
        CHECKS.due("days(10000)", x.days(10000), -1);
        CHECKS.due("days(MAX)", x.days(Integer.MAX_VALUE), -1);
        CHECKS.due("days(MIN)", x.days(Integer.MIN_VALUE), -1);
        CHECKS.due("days(9998)", x.days(9998), 9998);
        CHECKS.due("days(2)", x.days(2), -1);
        CHECKS.due("days(1)", x.days(1), 9999);
        CHECKS.due("days(0) at the last", x.days(0), 9999);
        CHECKS.due("days(1) at the last", x.days(1), -1);
        CHECKS.due("TODAY", x.count(0), 9999);
    }

    private static void courts() {
        ReportedCases x = new ReportedCases();
        CHECKS.due("court(-1, 0)", x.court(-1, 0), -1);
        CHECKS.due("court(10, 0)", x.court(10, 0), -1);
        CHECKS.due("court(0, -1)", x.court(0, -1), -1);
        CHECKS.due("court(0, 4)", x.court(0, 4), -1);
        for (int i = 0; i < 6; i++) {
            CHECKS.due("court " + i, x.court(i % 2 * 9, i % 2 * 3), i);
        }
        CHECKS.due("a seventh", x.court(0, 0), -1);
        CHECKS.due("COURTS", x.count(1), 6);
    }

    private static void points() {
        ReportedCases x = new ReportedCases();
        for (int i = 0; i < 12; i++) {
            CHECKS.due("point " + i, x.point(), i);
        }
        CHECKS.due("a thirteenth", x.point(), -1);
        CHECKS.due("POINTS", x.count(2), 12);
    }

    private static void opposing() {
        ReportedCases x = new ReportedCases();
        x.point();
        x.point();
        CHECKS.due("off, as it is", x.oppose(0, 1, false), false);
        CHECKS.due("on", x.oppose(0, 1, true), true);
        CHECKS.due("on again", x.oppose(0, 1, true), false);
        CHECKS.due("on again, turned", x.oppose(1, 0, true), false);
        CHECKS.due("off, turned", x.oppose(1, 0, false), true);
        CHECKS.due("off again", x.oppose(0, 1, false), false);
        CHECKS.due("with itself", x.oppose(1, 1, true), false);
        CHECKS.due("with itself, off", x.oppose(1, 1, false), false);
        CHECKS.due("no such first", x.oppose(-1, 1, true), false);
        CHECKS.due("no such second", x.oppose(0, 2, true), false);
        CHECKS.due("far off", x.oppose(Integer.MAX_VALUE, Integer.MIN_VALUE, true), false);
    }

    private static void cases() {
        ReportedCases x = new ReportedCases();
        CHECKS.due("without a court", x.kase(0, 0, 1, 0), -1);
        x.court(1, 1);
        x.days(5);
        CHECKS.due("court -1", x.kase(-1, 0, 1, 0), -1);
        CHECKS.due("court 1", x.kase(1, 0, 1, 0), -1);
        CHECKS.due("day -1", x.kase(0, -1, 1, 0), -1);
        CHECKS.due("day behind TODAY", x.kase(0, 6, 1, 0), -1);
        CHECKS.due("no judge", x.kase(0, 0, 0, 0), -1);
        CHECKS.due("four judges", x.kase(0, 0, 4, 0), -1);
        CHECKS.due("facts -1", x.kase(0, 0, 1, -1), -1);
        CHECKS.due("facts 1024", x.kase(0, 0, 1, 1024), -1);
        for (int i = 0; i < 32; i++) {
            CHECKS.due("case " + i, x.kase(0, i % 6, 1 + i % 3, 1023 - i), i);
        }
        CHECKS.due("a 33rd", x.kase(0, 0, 1, 0), -1);
        CHECKS.due("CASES", x.count(3), 32);
    }

    private static ReportedCases twoCases() {
        ReportedCases x = new ReportedCases();
        x.court(1, 0);
        x.point();
        x.point();
        x.days(9);
        x.kase(0, 5, 2, 3);
        x.kase(0, 4, 1, 3);
        x.kase(0, 5, 1, 3);
        return x;
    }

    private static void holding() {
        ReportedCases x = twoCases();
        CHECKS.due("case -1", x.holds(-1, 0, 0, 0, false), -1);
        CHECKS.due("case 3", x.holds(3, 0, 0, 0, false), -1);
        CHECKS.due("judge -1", x.holds(0, -1, 0, 0, false), -1);
        CHECKS.due("judge 2 of 2", x.holds(0, 2, 0, 0, false), -1);
        CHECKS.due("judge 1 of 1", x.holds(1, 1, 0, 0, true), -1);
        CHECKS.due("point -1", x.holds(0, 0, -1, 0, false), -1);
        CHECKS.due("point 2", x.holds(0, 0, 2, 0, true), -1);
        CHECKS.due("needs -1", x.holds(0, 0, 0, -1, false), -1);
        CHECKS.due("needs 1024", x.holds(0, 0, 0, 1024, false), -1);
        CHECKS.due("nothing came", x.count(4), 0);
        CHECKS.due("a HOLDING", x.holds(0, 1, 1, 1023, false), 0);
        CHECKS.due("the same again", x.holds(0, 1, 1, 1023, false), 1);
        CHECKS.due("a SAYING", x.holds(0, 1, 1, 0, true), 2);
    }

    private static void treating() {
        ReportedCases x = twoCases();
        for (int what : new int[] {1, 5, -1, Integer.MIN_VALUE}) {
            CHECKS.due("what " + what, x.treats(what, 0, 1, 0), -1);
        }
        for (int what = 2; what <= 4; what++) {
            CHECKS.due("case -1", x.treats(what, -1, 1, 0), -1);
            CHECKS.due("case 3", x.treats(what, 3, 1, 0), -1);
            CHECKS.due("other -1", x.treats(what, 0, -1, 0), -1);
            CHECKS.due("other 3", x.treats(what, 0, 3, 0), -1);
            CHECKS.due("an earlier day", x.treats(what, 1, 0, 0), -1);
            CHECKS.due("the same day, a lesser number", x.treats(what, 0, 2, 0), -1);
            CHECKS.due("itself", x.treats(what, 0, 0, 0), -1);
            CHECKS.due("point -1", x.treats(what, 0, 1, -1), what == 4 ? 4 : -1);
            CHECKS.due("point 2", x.treats(what, 0, 1, 2), what == 4 ? 5 : -1);
            CHECKS.due("a later day", x.treats(what, 0, 1, 1), 2 * what - 4 + (what == 4 ? 2 : 0));
            CHECKS.due("the same day, a greater number", x.treats(what, 2, 0, 0), 2 * what - 3 + (what == 4 ? 2 : 0));
        }
        CHECKS.due("NOTES", x.count(4), 8);
    }

    private static void statutes() {
        ReportedCases x = twoCases();
        CHECKS.due("point -1", x.statute(-1, 0, true), -1);
        CHECKS.due("point 2", x.statute(2, 0, false), -1);
        CHECKS.due("day -1", x.statute(0, -1, true), -1);
        CHECKS.due("day 10000", x.statute(0, 10000, false), -1);
        CHECKS.due("day 0", x.statute(0, 0, true), 0);
        CHECKS.due("day 9999", x.statute(1, 9999, false), 1);
    }

    private static void joining() {
        ReportedCases x = twoCases();
        CHECKS.due("no such first", x.join(-1, 0), -1);
        CHECKS.due("no such second", x.join(0, 2), -1);
        CHECKS.due("both the same", x.join(1, 1), -1);
        CHECKS.due("two", x.join(0, 1), 0);
        CHECKS.due("the same two again", x.join(1, 0), 1);
    }

    private static void striking() {
        ReportedCases x = twoCases();
        CHECKS.due("of none", x.strike(0), -1);
        x.join(0, 1);
        CHECKS.due("-1", x.strike(-1), -1);
        CHECKS.due("1", x.strike(1), -1);
        CHECKS.due("0", x.strike(0), 1);
        CHECKS.due("0 again", x.strike(0), 2);
        CHECKS.due("a STRIKE", x.strike(1), 3);
    }

    private static void mostNotes() {
        ReportedCases x = twoCases();
        for (int i = 0; i < 120; i++) {
            CHECKS.due("note " + i, x.holds(0, 0, 0, 0, false), i);
        }
        CHECKS.due("121st holds", x.holds(0, 0, 0, 0, true), -1);
        CHECKS.due("121st treats", x.treats(4, 0, 1, 0), -1);
        CHECKS.due("121st statute", x.statute(0, 0, true), -1);
        CHECKS.due("121st join", x.join(0, 1), -1);
        CHECKS.due("121st strike", x.strike(0), -1);
        CHECKS.due("NOTES", x.count(4), 120);
        CHECKS.due("votes stay", x.asked(0, 0, 0, 9, 9), 1);
    }

    private static String looked(ReportedCases x, int kase, int what) {
        try {
            return "" + x.look(kase, what);
        } catch (IndexOutOfBoundsException e) {
            return e.getClass() == IndexOutOfBoundsException.class ? "no case" : "the machine's";
        } catch (NoSuchElementException e) {
            return "no what";
        }
    }

    private static void looks(ReportedCases x, int kase, int what, String want) {
        String got = looked(x, kase, what);
        if (!got.equals(want)) {
            CHECKS.due("look(" + kase + ", " + what + ") answered " + got + ", not " + want + ";", 1, 0);
        }
    }

    private static void looking() {
        ReportedCases x = new ReportedCases();
        looks(x, 0, 0, "no case");
        x.court(1, 0);
        x.court(1, 0);
        x.days(8);
        x.kase(1, 6, 3, 77);
        x.days(1);
        looks(x, 0, 0, "1");
        looks(x, 0, 1, "6");
        looks(x, 0, 2, "3");
        looks(x, 0, 3, "77");
        looks(x, 0, 4, "8");
        looks(x, 0, 5, "no what");
        looks(x, 0, -1, "no what");
        looks(x, 1, 0, "no case");
        looks(x, -1, 0, "no case");
        looks(x, 1, 5, "no case");
        looks(x, Integer.MIN_VALUE, Integer.MAX_VALUE, "no case");
    }

    private static void counting() {
        ReportedCases x = twoCases();
        x.join(0, 1);
        Checks.rules(x, "binds not rank+1>=own;doubts 7;");
        counts("told", x, 9, 1, 2, 3, 1, 6, 7);
        CHECKS.due("count(-1)", x.count(-1), -1);
        CHECKS.due("count(7)", x.count(7), -1);
    }
}
