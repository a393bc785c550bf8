/** Promises 15 to 23: what stands, and what is asked of it. COURT 0 is above COURT 1; COURT 2 is abroad. */
public final class LawTest {
    private static final Checks CHECKS = new Checks();

    public static void main(String[] args) {
        standing();
        doubted();
        leading();
        sayings();
        asking();
        overruling();
        treatedByTheFirst();
        undoing();
        statutes();
        blindness();
        blindByStatute();
        blindSeesThenAlone();
        knowing();
        joining();
        binding();
        quarrelling();
        tellingApart();
        tellingApartByMany();
        hanging();
        everythingFull();
        wrongInputs();
        CHECKS.finish();
    }

    private static ReportedCases courts(int points, int today) {
        ReportedCases x = new ReportedCases();
        x.court(8, 0);
        x.court(4, 0);
        x.court(9, 1);
        for (int i = 0; i < points; i++) {
            x.point();
        }
        x.days(today);
        return x;
    }

    /** A CASE of one JUDGE, who holds the POINT and needs nothing. */
    private static int plainCase(ReportedCases x, int court, int day, int facts, int point) {
        int kase = x.kase(court, day, 1, facts);
        x.holds(kase, 0, point, 0, false);
        return kase;
    }

    private static void stands(String what, ReportedCases x, int point, int court, int facts, int stand, int lead) {
        CHECKS.due(what + ": stand", x.stand(point, court, facts, 50, 50), stand);
        CHECKS.due(what + ": lead", x.lead(point, court, facts, 50, 50), lead);
    }

    private static void standing() {
        ReportedCases x = courts(2, 50);
        stands("nothing", x, 0, 1, 0, 0, -1);
        x.kase(0, 20, 2, 0);
        x.holds(0, 0, 0, 5, false);
        stands("one of two", x, 0, 1, 5, 1, 0);
        x.holds(0, 0, 0, 1, false);
        stands("the same judge twice", x, 0, 1, 5, 1, 0);
        x.holds(0, 1, 0, 8, false);
        stands("both", x, 0, 1, 13, 3, 0);
        stands("both, by the lesser needs", x, 0, 1, 9, 3, 0);
        stands("needs of one", x, 0, 1, 8, 1, 0);
        stands("needs of none", x, 0, 1, 4, 0, -1);
        stands("another point", x, 1, 1, 1023, 0, -1);
        stands("abroad", x, 0, 2, 1023, 1, 0);
        CHECKS.due("the day itself", x.stand(0, 1, 13, 20, 50), 3);
        CHECKS.due("the day ahead", x.stand(0, 1, 13, 19, 50), 0);
        CHECKS.due("lead on the day ahead", x.lead(0, 1, 13, 19, 50), -1);
        x.kase(0, 21, 3, 0);
        x.holds(1, 0, 1, 0, false);
        x.holds(1, 2, 1, 0, false);
        stands("two of three", x, 1, 1, 0, 3, 1);
    }

    private static void doubted() {
        ReportedCases x = courts(1, 50);
        plainCase(x, 0, 10, 0, 0);
        x.kase(1, 11, 1, 0);
        x.kase(1, 12, 1, 0);
        x.treats(3, 1, 0, 0);
        x.treats(3, 1, 0, 0);
        stands("one CASE doubts twice", x, 0, 1, 0, 3, 0);
        CHECKS.due("one DOUBT", x.asked(0, 0, 3, 50, 50), 1);
        x.treats(3, 2, 0, 0);
        CHECKS.due("two DOUBTS", x.asked(0, 0, 3, 50, 50), 2);
        stands("two CASES doubt", x, 0, 1, 0, 2, 0);
        CHECKS.due("ahead of the second", x.stand(0, 1, 0, 11, 50), 3);
        plainCase(x, 1, 9, 0, 0);
        stands("another one binds without a DOUBT", x, 0, 1, 0, 3, 3);
        stands("but not the court above", x, 0, 0, 0, 2, 0);
        Checks.rules(x, "doubts 3;");
        stands("three are asked", x, 0, 1, 0, 3, 0);
    }

    private static void leading() {
        ReportedCases x = courts(1, 50);
        plainCase(x, 1, 30, 0, 0);
        plainCase(x, 0, 20, 0, 0);
        plainCase(x, 0, 25, 0, 0);
        plainCase(x, 0, 25, 0, 0);
        plainCase(x, 0, 22, 0, 0);
        plainCase(x, 2, 40, 0, 0);
        stands("greatest rank, latest, greatest number", x, 0, 1, 0, 3, 3);
        CHECKS.due("as of 24", x.lead(0, 1, 0, 24, 50), 4);
        stands("abroad its own", x, 0, 2, 0, 3, 5);
        Checks.rules(x, "binds 0;");
        stands("none binds: the greatest rank of all", x, 0, 1, 0, 1, 5);
    }

    private static void sayings() {
        ReportedCases x = courts(2, 50);
        plainCase(x, 2, 20, 0, 0);
        x.kase(0, 10, 1, 0);
        x.holds(1, 0, 1, 3, true);
        stands("a SAYING", x, 1, 1, 3, 1, 1);
        stands("a SAYING that needs more", x, 1, 1, 2, 0, -1);
        CHECKS.due("a SAYING is no vote", x.asked(1, 1, 0, 50, 50), 0);
        x.statute(1, 10, false);
        stands("a SAYING that is taken", x, 1, 1, 3, 0, -1);
        x.kase(2, 30, 1, 0);
        x.holds(2, 0, 0, 0, true);
        stands("a SAYING leads as a HOLDING", x, 0, 1, 0, 1, 2);
        x.kase(2, 40, 1, 0);
        x.treats(2, 3, 2, 0);
        stands("a SAYING that is OVERRULED", x, 0, 1, 0, 1, 0);
        x.treats(4, 3, 0, 0);
        stands("a HOLDING of an UNDONE CASE", x, 0, 1, 0, 0, -1);
    }

    private static void asks(ReportedCases x, int kase, int point, int day, int... want) {
        for (int what = 0; what < want.length; what++) {
            CHECKS.due("asked(" + kase + ", " + point + ", " + what + ", " + day + ", 50)",
                x.asked(kase, point, what, day, 50), want[what]);
        }
    }

    private static void asking() {
        ReportedCases x = courts(2, 50);
        x.kase(1, 10, 3, 6);
        x.holds(0, 0, 0, 2, false);
        x.holds(0, 1, 0, 6, false);
        x.holds(0, 2, 0, 7, false);
        asks(x, 0, 0, 50, 2, 1, 0, 0, 0, 0, 0);
        asks(x, 0, 1, 50, 0, 0, 0, 0, 0, 0, 0);
        asks(x, 0, 0, 9, -1, -1, -1, -1, -1, -1, -1);
        CHECKS.due("not known", x.asked(0, 0, 0, 50, 49), -1);
        CHECKS.due("what -1", x.asked(0, 0, -1, 50, 50), -1);
        CHECKS.due("what 7", x.asked(0, 0, 7, 50, 50), -1);
        x.kase(0, 20, 1, 0);
        x.treats(2, 1, 0, 0);
        x.treats(3, 1, 0, 0);
        x.statute(0, 30, false);
        x.kase(1, 40, 1, 0);
        x.treats(4, 2, 0, 0);
        asks(x, 0, 0, 19, 2, 1, 0, 0, 0, 0, 0);
        asks(x, 0, 0, 20, 2, 1, 1, 1, 0, 0, 0);
        asks(x, 0, 0, 30, 2, 1, 1, 1, 1, 0, 0);
        asks(x, 0, 0, 40, 2, 1, 1, 1, 1, 0, 1);
        asks(x, 0, 1, 40, 0, 0, 0, 0, 0, 0, 1);
    }

    private static void overruling() {
        ReportedCases x = courts(1, 50);
        plainCase(x, 1, 10, 0, 0);
        x.kase(1, 15, 3, 1);
        x.holds(1, 0, 0, 1, false);
        x.holds(1, 1, 0, 2, false);
        x.treats(2, 1, 0, 0);
        CHECKS.due("by its own COURT", x.asked(0, 0, 2, 50, 50), 1);
        Checks.rules(x, "overrules votes=1 and age=5 and doubted=0 and seats=3 and same;");
        CHECKS.due("names of the LATER one", x.asked(0, 0, 2, 50, 50), 1);
        x.kase(2, 16, 1, 0);
        x.treats(3, 2, 0, 0);
        CHECKS.due("a DOUBT came", x.asked(0, 0, 2, 50, 50), 0);
        CHECKS.due("as of the day ahead of it", x.asked(0, 0, 2, 15, 50), 1);
        Checks.rules(x, "overrules rank=9 and own=4 and land=0;");
        x.treats(2, 2, 0, 0);
        CHECKS.due("sides of the rule", x.asked(0, 0, 2, 50, 50), 1);
        x.kase(0, 20, 1, 0);
        x.treats(4, 3, 2, 0);
        CHECKS.due("the overruling one is UNDONE", x.asked(0, 0, 2, 50, 50), 0);
        CHECKS.due("and its DOUBT does not count", x.asked(0, 0, 3, 50, 50), 0);
    }

    private static void treatedByTheFirst() {
        ReportedCases x = courts(1, 50);
        x.kase(0, 30, 1, 0);
        x.kase(1, 20, 1, 0);
        x.treats(2, 0, 1, 0);
        CHECKS.due("overruled by CASE 0, told by NOTE 0", x.asked(1, 0, 2, 50, 50), 1);
        CHECKS.due("ahead of CASE 0", x.asked(1, 0, 2, 29, 50), 0);
        x.treats(4, 0, 1, 0);
        CHECKS.due("undone by CASE 0", x.asked(1, 0, 6, 50, 50), 1);
    }

    private static void undoing() {
        ReportedCases x = courts(1, 50);
        plainCase(x, 0, 10, 0, 0);
        x.kase(1, 20, 1, 0);
        x.kase(1, 30, 1, 0);
        x.treats(4, 1, 0, 0);
        x.treats(4, 2, 1, 0);
        stands("undone by one that is undone", x, 0, 1, 0, 3, 0);
        CHECKS.due("as of the day between", x.stand(0, 1, 0, 29, 50), 0);
        x.kase(1, 40, 1, 0);
        x.treats(4, 3, 2, 0);
        stands("a row of three", x, 0, 1, 0, 0, -1);
        x.treats(4, 3, 1, 0);
        stands("the first of them is undone again", x, 0, 1, 0, 3, 0);
    }

    private static void statutes() {
        ReportedCases x = courts(1, 50);
        plainCase(x, 0, 10, 0, 0);
        plainCase(x, 0, 21, 0, 0);
        x.statute(0, 20, false);
        CHECKS.due("ahead of it", x.stand(0, 1, 0, 19, 50), 3);
        CHECKS.due("from its day on", x.stand(0, 1, 0, 20, 50), 0);
        stands("a CASE behind it", x, 0, 1, 0, 3, 1);
        x.statute(0, 21, false);
        stands("a CASE of its day", x, 0, 1, 0, 0, -1);
        x.statute(0, 30, true);
        stands("laid", x, 0, 1, 0, 4, -1);
        CHECKS.due("taken though it is laid", x.asked(0, 0, 4, 50, 50), 1);
        x.statute(0, 30, false);
        stands("of one day the greater number", x, 0, 1, 0, 0, -1);
        x.statute(0, 29, true);
        stands("an earlier day told later", x, 0, 1, 0, 0, -1);
        CHECKS.due("as of that day", x.stand(0, 1, 0, 29, 50), 4);
        x.statute(0, 60, true);
        CHECKS.due("of a day to come", x.stand(0, 1, 0, 60, 50), 4);
        CHECKS.due("as of the day ahead of that", x.stand(0, 1, 0, 59, 50), 0);
    }

    private static void blindness() {
        ReportedCases x = courts(3, 50);
        x.oppose(0, 1, true);
        x.kase(0, 10, 1, 0);
        x.holds(0, 0, 0, 4, false);
        plainCase(x, 1, 20, 4, 1);
        plainCase(x, 1, 20, 3, 1);
        plainCase(x, 2, 20, 4, 1);
        plainCase(x, 1, 10, 4, 2);
        plainCase(x, 1, 5, 4, 1);
        CHECKS.due("bound", x.asked(1, 1, 5, 50, 50), 1);
        CHECKS.due("on other FACTS", x.asked(2, 1, 5, 50, 50), 0);
        CHECKS.due("abroad", x.asked(3, 1, 5, 50, 50), 0);
        CHECKS.due("another POINT", x.asked(4, 2, 5, 50, 50), 0);
        CHECKS.due("ahead of it", x.asked(5, 1, 5, 50, 50), 0);
        CHECKS.due("a POINT that it does not hold", x.asked(1, 0, 5, 50, 50), 0);
        CHECKS.due("the one that it missed", x.forgotten(1, 50), 1);
        CHECKS.due("none missed", x.forgotten(2, 50), 0);
        CHECKS.due("stand by one that is not BLIND", x.lead(1, 1, 4, 50, 50), 2);
        plainCase(x, 0, 12, 0, 0);
        plainCase(x, 1, 15, 4, 0);
        CHECKS.due("two made it so, of which one is BLIND not good", x.forgotten(1, 50), 1 | 1 << 6);
        CHECKS.due("missed that of its own COURT", x.forgotten(7, 50), 1 << 5);
        x.oppose(0, 1, false);
        CHECKS.due("no more opposed", x.forgotten(1, 50), 0);
    }

    private static void blindByStatute() {
        ReportedCases x = courts(2, 50);
        x.oppose(0, 1, true);
        plainCase(x, 1, 20, 0, 1);
        x.statute(0, 20, true);
        CHECKS.due("LAID on its day", x.asked(0, 1, 5, 50, 50), 1);
        CHECKS.due("but no CASE made it", x.forgotten(0, 50), 0);
        stands("BLIND, yet it persuades", x, 1, 1, 0, 1, 0);
        x.statute(0, 20, false);
        CHECKS.due("struck on its day", x.asked(0, 1, 5, 50, 50), 0);
        x.statute(0, 21, true);
        CHECKS.due("laid behind its day", x.asked(0, 1, 5, 50, 50), 0);
    }

    private static void blindSeesThenAlone() {
        ReportedCases x = courts(2, 50);
        x.oppose(0, 1, true);
        plainCase(x, 0, 10, 0, 0);
        plainCase(x, 1, 20, 0, 1);
        x.kase(0, 20, 1, 0);
        x.treats(2, 2, 0, 0);
        CHECKS.due("overruled by one behind it", x.asked(1, 1, 5, 50, 50), 1);
        x.kase(0, 19, 1, 0);
        x.treats(2, 3, 0, 0);
        CHECKS.due("overruled by one ahead of it", x.asked(1, 1, 5, 50, 50), 0);
        x.kase(0, 30, 1, 0);
        x.treats(4, 4, 3, 0);
        CHECKS.due("which is undone behind it", x.asked(1, 1, 5, 50, 50), 0);
        x.strike(2);
        x.strike(3);
        CHECKS.due("the overrulings are STRUCK", x.asked(1, 1, 5, 50, 50), 1);
        plainCase(x, 1, 5, 0, 1);
        CHECKS.due("the first one may be BLIND itself", x.asked(0, 0, 5, 50, 50), 0);
        plainCase(x, 0, 5, 0, 1);
        CHECKS.due("it is", x.asked(0, 0, 5, 50, 50), 1);
        CHECKS.due("then it does not bind", x.asked(1, 1, 5, 50, 50), 0);
        Checks.rules(x, "binds age=10;");
        CHECKS.due("DAYS up to its own", x.forgotten(1, 50), 1);
    }

    private static void knowing() {
        ReportedCases x = courts(1, 10);
        plainCase(x, 0, 5, 0, 0);
        x.days(10);
        x.strike(0);
        x.days(10);
        x.strike(1);
        x.days(20);
        x.strike(2);
        x.strike(0);
        int[] days = {9, 10, 19, 20, 29, 30, 49, 50, 9999};
        int[] want = {0, 3, 3, 0, 0, 3, 3, 0, 0};
        for (int i = 0; i < days.length; i++) {
            CHECKS.due("as known on " + days[i], x.stand(0, 1, 0, 50, days[i]), want[i]);
        }
        x.strike(4);
        CHECKS.due("STRUCK by another one still", x.stand(0, 1, 0, 50, 50), 0);
        x.strike(3);
        CHECKS.due("STRUCK no more", x.stand(0, 1, 0, 50, 50), 3);
    }

    private static void joining() {
        ReportedCases x = courts(6, 50);
        CHECKS.due("alone", x.joined(5, 50), 5);
        x.join(5, 3);
        x.join(2, 4);
        CHECKS.due("two", x.joined(5, 50), 3);
        x.join(4, 5);
        CHECKS.due("a row", x.joined(3, 50), 2);
        CHECKS.due("the least itself", x.joined(2, 50), 2);
        CHECKS.due("not in it", x.joined(1, 50), 1);
        x.kase(0, 10, 3, 0);
        x.holds(0, 0, 2, 0, false);
        x.holds(0, 0, 3, 0, false);
        x.holds(0, 1, 5, 0, false);
        CHECKS.due("VOTES for all of them", x.asked(0, 4, 0, 50, 50), 2);
        stands("of them all", x, 4, 1, 0, 3, 0);
        x.oppose(2, 3, true);
        plainCase(x, 0, 20, 0, 1);
        CHECKS.due("not opposed within one", x.quarrel(1, 0, 50, 50), 0);
        x.oppose(5, 1, true);
        CHECKS.due("opposed by one of them", x.asked(1, 1, 5, 50, 50), 1);
        x.kase(0, 15, 1, 0);
        x.treats(2, 2, 0, 4);
        stands("overruled for them all", x, 3, 1, 0, 0, -1);
        x.strike(2);
        CHECKS.due("the row is cut", x.joined(5, 50), 3);
    }

    private static void binding() {
        ReportedCases x = courts(1, 50);
        x.kase(0, 10, 3, 0);
        x.holds(0, 0, 0, 1, false);
        CHECKS.due("though it is not HELD", x.binds(0, 0, 1, 0, 50, 50), 1);
        CHECKS.due("abroad", x.binds(0, 0, 2, 0, 50, 50), 0);
        Checks.rules(x, "binds votes=1 and age=7;");
        CHECKS.due("VOTES on FACTS", x.binds(0, 0, 1, 1, 17, 50), 1);
        CHECKS.due("no VOTES on these", x.binds(0, 0, 1, 2, 17, 50), 0);
        CHECKS.due("another age", x.binds(0, 0, 1, 1, 18, 50), 0);
        CHECKS.due("of a later DAY", x.binds(0, 0, 1, 1, 9, 50), -1);
        CHECKS.due("not known", x.binds(0, 0, 1, 1, 17, 49), -1);
    }

    private static void quarrelling() {
        ReportedCases x = courts(12, 50);
        CHECKS.due("nothing stands", x.quarrel(0, 0, 50, 50), 0);
        for (int point = 0; point < 12; point++) {
            x.statute(point, 10, true);
        }
        CHECKS.due("none opposed", x.quarrel(0, 0, 50, 50), 0);
        x.oppose(4, 7, true);
        CHECKS.due("the least of two", x.quarrel(0, 0, 50, 50), 1 << 4);
        x.oppose(7, 9, true);
        CHECKS.due("the fewest", x.quarrel(0, 0, 50, 50), 1 << 7);
        x.oppose(9, 11, true);
        CHECKS.due("a row of four", x.quarrel(0, 0, 50, 50), 1 << 4 | 1 << 9);
        CHECKS.due("ahead of the STATUTES", x.quarrel(0, 0, 9, 50), 0);
        x.statute(9, 20, false);
        CHECKS.due("one does not stand", x.quarrel(0, 0, 50, 50), 1 << 4);
        for (int a = 0; a < 12; a++) {
            for (int b = 0; b < a; b++) {
                x.oppose(a, b, true);
            }
        }
        CHECKS.due("all against all", x.quarrel(0, 0, 50, 50), 1535);
        ReportedCases y = courts(2, 50);
        y.oppose(0, 1, true);
        plainCase(y, 2, 10, 0, 0);
        plainCase(y, 0, 10, 0, 1);
        CHECKS.due("a STAND of 1 does not count", y.quarrel(1, 0, 50, 50), 0);
        plainCase(y, 0, 9, 0, 0);
        y.strike(1);
        y.kase(0, 9, 1, 1);
        y.holds(3, 0, 1, 1, false);
        CHECKS.due("BLIND ones bind no more", y.quarrel(1, 1, 50, 50), 0);
        y.kase(0, 9, 1, 0);
        y.holds(4, 0, 1, 1, false);
        CHECKS.due("a STAND of 3 counts", y.quarrel(1, 1, 50, 50), 1);
        CHECKS.due("on other FACTS it does not stand", y.quarrel(1, 0, 50, 50), 0);
    }

    private static void tellingApart() {
        ReportedCases x = courts(3, 50);
        CHECKS.due("no CASES", x.apart(0, 1, 50, 50), 0);
        CHECKS.due("no CASES of one POINT", x.apart(1, 1, 50, 50), 0);
        plainCase(x, 0, 10, 0b0110, 0);
        CHECKS.due("none of the other", x.apart(0, 1, 50, 50), 0);
        CHECKS.due("one against itself", x.apart(0, 0, 50, 50), -1);
        plainCase(x, 2, 11, 0b1010, 1);
        CHECKS.due("the least bit", x.apart(0, 1, 50, 50), 0b0100);
        plainCase(x, 1, 12, 0b1110, 1);
        CHECKS.due("the one for both", x.apart(0, 1, 50, 50), 0b1000);
        CHECKS.due("turned", x.apart(1, 0, 50, 50), 0b1000);
        plainCase(x, 1, 13, 0b0111, 1);
        CHECKS.due("two are needed", x.apart(0, 1, 50, 50), 0b1001);
        CHECKS.due("as of the day ahead", x.apart(0, 1, 12, 50), 0b1000);
        x.kase(1, 14, 1, 0b0110);
        x.holds(4, 0, 1, 0b10000, false);
        CHECKS.due("not HELD on its own FACTS", x.apart(0, 1, 50, 50), 0b1001);
        plainCase(x, 1, 15, 0b0110, 1);
        CHECKS.due("the same FACTS", x.apart(0, 1, 50, 50), -1);
        x.kase(0, 16, 1, 0);
        x.treats(4, 6, 5, 0);
        CHECKS.due("UNDONE or not", x.apart(0, 1, 50, 50), -1);
        x.strike(5);
        CHECKS.due("a STRIKE of the HOLDING", x.apart(0, 1, 50, 50), 0b1001);
    }

    private static void tellingApartByMany() {
        ReportedCases x = courts(2, 50);
        plainCase(x, 0, 10, 0, 0);
        plainCase(x, 0, 10, 0b101, 1);
        plainCase(x, 0, 10, 0b110, 1);
        CHECKS.due("fewer go ahead of lesser bits", x.apart(0, 1, 50, 50), 0b100);
        for (int fact = 0; fact < 10; fact++) {
            plainCase(x, 0, 11, 1 << fact, 1);
        }
        CHECKS.due("all FACTS are needed", x.apart(0, 1, 50, 50), 1023);
    }

    private static void hanging() {
        ReportedCases x = courts(4, 50);
        plainCase(x, 0, 10, 0, 0);
        plainCase(x, 0, 11, 0, 1);
        plainCase(x, 0, 12, 0, 1);
        x.kase(0, 20, 1, 0);
        x.holds(3, 0, 2, 0, true);
        x.treats(2, 3, 0, 0);
        CHECKS.due("what it overrules and says", x.hangs(3, 1, 0, 50, 50), 0b101);
        CHECKS.due("the overruled one", x.hangs(0, 1, 0, 50, 50), 0);
        CHECKS.due("one of two", x.hangs(1, 1, 0, 50, 50), 0);
        x.kase(1, 30, 1, 0);
        x.treats(4, 4, 3, 0);
        x.treats(4, 4, 2, 0);
        CHECKS.due("the undoing one", x.hangs(4, 1, 0, 50, 50), 0b101);
        CHECKS.due("now the only one", x.hangs(1, 1, 0, 50, 50), 0b010);
        CHECKS.due("as of a day ahead", x.hangs(4, 1, 0, 29, 50), 0);
        CHECKS.due("not known: nothing hangs on it", x.hangs(4, 1, 0, 50, 49), 0);
        x.join(3, 1);
        CHECKS.due("of JOINED ones the least", x.hangs(1, 1, 0, 50, 50), 0b010);
        ReportedCases y = courts(2, 50);
        y.oppose(0, 1, true);
        plainCase(y, 0, 10, 0, 0);
        plainCase(y, 1, 20, 0, 1);
        CHECKS.due("it made another one BLIND", y.hangs(0, 1, 0, 50, 50), 0b11);
    }

    private static void everythingFull() {
        ReportedCases x = courts(12, 50);
        for (int kase = 0; kase < 32; kase++) {
            x.kase(0, kase, 1, 1 << kase % 10);
        }
        for (int note = 0; note < 120; note++) {
            x.holds(note % 32, 0, note % 12, 0, false);
        }
        CHECKS.due("NOTES", x.count(4), 120);
        for (int note = 0; note < 120; note++) {
            CHECKS.due("held by NOTE " + note, x.asked(note % 32, note % 12, 1, 50, 50), 1);
        }
        stands("the last CASE for POINT 3", x, 3, 1, 0, 3, 31);
        x.oppose(3, 7, true);
        // CASES 3, 7, 11 .. 31 hold both POINTS: the first of them binds, so the others are BLIND and bind no more.
        CHECKS.due("the last CASE missed the first alone", x.forgotten(31, 50), 1 << 3);
        CHECKS.due("the first missed none", x.forgotten(3, 50), 0);
    }

    private static void wrongInputs() {
        ReportedCases x = courts(1, 50);
        plainCase(x, 0, 10, 0, 0);
        int[] good = {0, 0, 0, 50, 50};
        int[][] bad = {{-1, 1}, {-1, 3}, {-1, 1024}, {-1, 10000}, {-1, 10000}};
        for (int place = 0; place < 5; place++) {
            for (int value : new int[] {bad[place][0], bad[place][1], Integer.MIN_VALUE, Integer.MAX_VALUE}) {
                int[] v = good.clone();
                v[place] = value;
                String at = " with " + value + " at " + place;
                CHECKS.due("stand" + at, x.stand(v[0], v[1], v[2], v[3], v[4]), -1);
                CHECKS.due("lead" + at, x.lead(v[0], v[1], v[2], v[3], v[4]), -1);
                CHECKS.due("binds" + at, x.binds(0, v[0], v[1], v[2], v[3], v[4]), -1);
                CHECKS.due("hangs" + at, x.hangs(v[0], v[1], v[2], v[3], v[4]), -1);
                if (place > 0) {
                    CHECKS.due("quarrel" + at, x.quarrel(v[1], v[2], v[3], v[4]), -1);
                } else {
                    CHECKS.due("binds no case" + at, x.binds(value, 0, 0, 0, 50, 50), -1);
                    CHECKS.due("asked no case" + at, x.asked(value, 0, 0, 50, 50), -1);
                    CHECKS.due("asked no point" + at, x.asked(0, value, 0, 50, 50), -1);
                    CHECKS.due("apart first" + at, x.apart(value, 0, 50, 50), -1);
                    CHECKS.due("apart second" + at, x.apart(0, value, 50, 50), -1);
                    CHECKS.due("joined" + at, x.joined(value, 50), -1);
                    CHECKS.due("forgotten" + at, x.forgotten(value, 50), 0);
                }
                if (place > 2) {
                    CHECKS.due("asked" + at, x.asked(0, 0, 0, v[3], v[4]), -1);
                    CHECKS.due("apart" + at, x.apart(0, 0, v[3], v[4]), -1);
                    CHECKS.due("joined known" + at, x.joined(0, value), -1);
                    CHECKS.due("forgotten known" + at, x.forgotten(0, value), 0);
                }
            }
        }
    }
}
