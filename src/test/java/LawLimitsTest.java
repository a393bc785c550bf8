import java.util.ArrayList;
import java.util.List;

/** The limits of what is KNOWN, of parts 3 and 4, and of promises 15 to 23, a method for each sentence that names one. */
public final class LawLimitsTest {
    private static final Limits LIMITS = new Limits();
    private static final List<String> SOME = Limits.some();
    private static final List<String> FULL = Limits.full();
    private static final int[] BAD_DAYS = Limits.bad(-1, 10000);
    private static final int[] BAD_FACTS = Limits.bad(-1, 1024);
    /** COURT 0 is above COURT 1, COURT 2 is abroad; two OPPOSED POINTS; TODAY is 50. */
    private static final List<String> COURTS = List.of("court 8 0", "court 4 0", "court 9 1", "point", "point",
        "oppose 0 1 true", "days 50");

    public static void main(String[] args) {
        noSuchOnes();
        anyDays();
        toldBy();
        struckByTheLast();
        notOfAnUnknownCase();
        joinedByRows();
        opposedNotWithinOne();
        undone();
        heldByMoreThanHalf();
        needsAllInFacts();
        overruledByALater();
        doubtsAndDoubted();
        latestStatute();
        takenByAStatute();
        goodAndBinding();
        blind();
        blindByLaw();
        standOfEach();
        leads();
        askedOfAKnownCase();
        bindsOfAKnownCase();
        quarrels();
        forgottenBits();
        apartByFacts();
        hangsOnACase();
        askingChangesNothing();
        LIMITS.finish();
    }

    private static Run behind(List<String> history, String... calls) {
        return LIMITS.run(Limits.rows(history, List.of(calls)));
    }

    /** A CASE of one JUDGE who holds the POINT and needs nothing. */
    private static List<String> plain(int kase, int court, int day, int facts, int point) {
        return List.of("kase " + court + " " + day + " 1 " + facts, "holds " + kase + " 0 " + point + " 0 false");
    }

    private static void noSuchOnes() {
        LIMITS.sentence("NONE: no such ones.");
        int[] points = Limits.bad(-1, 4, 12);
        int[] courts = Limits.bad(-1, 3, 6);
        int[] cases = Limits.bad(-1, 5, 32);
        int[][] ofAPoint = {points, courts, BAD_FACTS, BAD_DAYS, BAD_DAYS};
        LIMITS.refusedEach(SOME, "stand 0 0 0 60 60", ofAPoint, -1);
        LIMITS.refusedEach(SOME, "lead 3 2 1023 60 60", ofAPoint, -1);
        LIMITS.refusedEach(SOME, "asked 0 0 0 60 60", new int[][] {cases, points, Limits.bad(-1, 7), BAD_DAYS, BAD_DAYS}, -1);
        LIMITS.refusedEach(SOME, "asked 4 3 6 60 60", new int[][] {cases, points, Limits.bad(-1, 7), BAD_DAYS, BAD_DAYS}, -1);
        LIMITS.refusedEach(SOME, "binds 4 3 2 1023 60 60", new int[][] {cases, points, courts, BAD_FACTS, BAD_DAYS, BAD_DAYS},
            -1);
        LIMITS.refusedEach(SOME, "quarrel 2 1023 60 60", new int[][] {courts, BAD_FACTS, BAD_DAYS, BAD_DAYS}, -1);
        LIMITS.refusedEach(SOME, "forgotten 4 60", new int[][] {cases, BAD_DAYS}, 0);
        LIMITS.refusedEach(SOME, "apart 0 3 60 60", new int[][] {points, points, BAD_DAYS, BAD_DAYS}, -1);
        LIMITS.refusedEach(SOME, "hangs 4 2 1023 60 60", new int[][] {cases, courts, BAD_FACTS, BAD_DAYS, BAD_DAYS}, -1);
        LIMITS.refusedEach(SOME, "joined 3 60", new int[][] {points, BAD_DAYS}, -1);
        // Of a full object: the last of each is there, the next is not.
        LIMITS.all(LIMITS.run(FULL), "stand 11 5 1023 9999 9999", 1, "stand 12 5 1023 9999 9999", -1,
            "stand 11 6 1023 9999 9999", -1, "lead 12 5 1023 9999 9999", -1, "lead 11 6 1023 9999 9999", -1,
            "asked 31 11 0 9999 9999", 1, "asked 32 11 0 9999 9999", -1, "asked 31 12 0 9999 9999", -1,
            "binds 31 11 5 1023 9999 9999", 0, "binds 32 11 5 1023 9999 9999", -1, "binds 31 12 5 1023 9999 9999", -1,
            "binds 31 11 6 1023 9999 9999", -1, "quarrel 5 1023 9999 9999", 0, "quarrel 6 1023 9999 9999", -1,
            "forgotten 31 9999", 0, "forgotten 32 9999", 0, "apart 11 12 9999 9999", -1, "apart 12 11 9999 9999", -1,
            "hangs 31 5 1023 9999 9999", 0, "hangs 32 5 1023 9999 9999", -1, "joined 11 9999", 11, "joined 12 9999", -1,
            "joined 10 9999", 9, "joined 10 9998", 10);
    }

    private static void anyDays() {
        LIMITS.sentence("STAND as of a DAY, as KNOWN on a DAY (any DAYS)");
        Run run = LIMITS.run("court 1 0", "point", "kase 0 0 1 0", "holds 0 0 0 0 false");
        for (int day : new int[] {0, 1, 9998, 9999}) {
            for (int known : new int[] {0, 1, 9998, 9999}) {
                String when = " " + day + " " + known;
                LIMITS.all(run, "stand 0 0 0" + when, 3, "lead 0 0 0" + when, 0, "asked 0 0 1" + when, 1,
                    "binds 0 0 0 0" + when, 1, "quarrel 0 0" + when, 0, "apart 0 0" + when, -1, "hangs 0 0 0" + when, 1);
            }
        }
        LIMITS.all(run, "joined 0 0", 0, "joined 0 9999", 0, "forgotten 0 0", 0, "forgotten 0 9999", 0, "count 0", 0);
        LIMITS.all(LIMITS.run("court 1 0", "point", "days 9999", "kase 0 9999 1 0", "holds 0 0 0 0 false"),
            "stand 0 0 0 9999 9999", 3, "stand 0 0 0 9998 9999", 0, "stand 0 0 0 9999 9998", 0, "stand 0 0 0 0 0", 0);
    }

    private static void toldBy() {
        LIMITS.sentence("As KNOWN on a DAY k: NOTES and CASES TOLD by k");
        // Of each kind a NOTE that is TOLD on 20: it counts as KNOWN on 20, and not as KNOWN on 19.
        List<String> ready = Limits.rows(List.of("court 8 0", "point", "point", "days 10"), plain(0, 0, 1, 0, 0),
            List.of("kase 0 2 1 0", "statute 1 0 true", "days 10"));
        Object[][] kinds = {
            {"holds 1 0 0 0 false", "asked 1 0 0 50 ", 0, 1},
            {"holds 1 0 0 0 true", "lead 0 0 0 50 ", 0, 0},
            {"treats 2 1 0 0", "asked 0 0 2 50 ", 0, 1},
            {"treats 3 1 0 0", "asked 0 0 3 50 ", 0, 1},
            {"treats 4 1 0 0", "asked 0 0 6 50 ", 0, 1},
            {"statute 0 1 false", "asked 0 0 4 50 ", 0, 1},
            {"statute 0 1 true", "stand 0 0 0 50 ", 3, 4},
            {"join 0 1", "joined 1 ", 1, 0},
            {"strike 1", "stand 1 0 0 50 ", 4, 0}};
        for (Object[] kind : kinds) {
            Run run = behind(ready, "" + kind[0], "days 30");
            LIMITS.all(run, kind[1] + "19", kind[2], kind[1] + "20", kind[3], kind[1] + "21", kind[3], kind[1] + "9999",
                kind[3], kind[1] + "19", kind[2]);
            // STRUCK on 50, all is as before for who knows that, and not for who does not.
            LIMITS.all(run, "strike 2", 3, kind[1] + "50", kind[2], kind[1] + "49", kind[3], kind[1] + "9999", kind[2]);
        }
        // A SAYING alone tells by the STAND of its POINT; a CASE by what is asked of it.
        LIMITS.all(behind(ready, "strike 0", "holds 1 0 0 0 true"), "stand 0 0 0 50 19", 3, "stand 0 0 0 50 20", 1);
        LIMITS.all(behind(ready, "kase 0 20 1 0", "days 1"), "asked 2 0 0 50 19", -1, "asked 2 0 0 50 20", 0);
        // Nothing of it is KNOWN ahead of the first day on which something was TOLD.
        LIMITS.all(LIMITS.run(ready), "stand 0 0 0 50 9", 0, "stand 1 0 0 50 9", 0, "stand 1 0 0 50 10", 4,
            "asked 0 0 0 50 9", -1);
    }

    private static void struckByTheLast() {
        LIMITS.sentence("not those STRUCK by one of them (a STRIKE may be STRUCK: then it doesn't count; from the last one on)");
        // A row of STRIKES, each of the one ahead of it, up to the last NOTE that there may be.
        Run run = LIMITS.run("court 1 0", "point", "statute 0 0 true");
        for (int note = 1; note < 120; note++) {
            LIMITS.due(run, "strike " + (note - 1), note);
            LIMITS.due(run, "stand 0 0 0 0 0", note % 2 == 0 ? 4 : 0);
        }
        LIMITS.all(run, "strike 119", -1, "stand 0 0 0 0 0", 0);
        // Told on days of their own: as KNOWN on each day the row ends there.
        List<String> calls = new ArrayList<>(List.of("court 1 0", "point", "statute 0 0 true"));
        for (int note = 1; note < 60; note++) {
            calls.add("days 1");
            calls.add("strike " + (note - 1));
        }
        Run daily = LIMITS.run(calls);
        for (int day = 0; day < 62; day++) {
            LIMITS.due(daily, "stand 0 0 0 0 " + day, Math.min(day, 59) % 2 == 0 ? 4 : 0);
        }
        // Many STRIKES of one NOTE: all of them must be STRUCK before it counts again.
        Run many = LIMITS.run("court 1 0", "point", "statute 0 0 true");
        for (int note = 1; note <= 40; note++) {
            many.call("strike 0");
        }
        for (int note = 1; note <= 40; note++) {
            LIMITS.due(many, "stand 0 0 0 0 0", 0);
            many.call("strike " + note);
        }
        LIMITS.due(many, "stand 0 0 0 0 0", 4);
        // A STRIKE of a STRIKE of a later NOTE has nothing to do with it.
        LIMITS.all(LIMITS.run("court 1 0", "point", "point", "statute 0 0 true", "statute 1 0 true", "strike 0", "strike 1",
            "strike 3"), "stand 0 0 0 0 0", 0, "stand 1 0 0 0 0", 4);
    }

    private static void notOfAnUnknownCase() {
        LIMITS.sentence("nor those of a CASE that isn't KNOWN");
        List<String> ready = Limits.rows(COURTS, plain(0, 0, 10, 0, 0), List.of("days 1", "kase 0 51 1 0", "treats 2 1 0 0",
            "treats 3 1 0 0", "treats 4 1 0 0", "holds 1 0 1 0 false", "oppose 0 1 false"));
        LIMITS.all(LIMITS.run(ready), "asked 0 0 2 51 50", 0, "asked 0 0 3 51 50", 0, "asked 0 0 6 51 50", 0,
            "asked 0 0 2 51 51", 1, "asked 0 0 3 51 51", 1, "asked 0 0 6 51 51", 1, "stand 1 1 0 51 50", 0,
            "stand 1 1 0 51 51", 3);
        // As of a DAY ahead of it, it is KNOWN, but not there.
        LIMITS.all(LIMITS.run(ready), "asked 0 0 2 50 51", 0, "asked 0 0 3 50 51", 0, "asked 0 0 6 50 51", 0,
            "stand 1 1 0 50 51", 0);
    }

    private static void joinedByRows() {
        LIMITS.sentence("POINTS that are JOINED (by rows of JOININGS, too) are one: the least of them");
        for (boolean upwards : new boolean[] {true, false}) {
            Run run = LIMITS.run(Limits.times(12, "point"));
            for (int i = 0; i < 11; i++) {
                int at = upwards ? i : 10 - i;
                LIMITS.due(run, "join " + (at + 1) + " " + at, i);
                LIMITS.due(run, "joined 11 0", upwards ? i < 10 ? 11 : 0 : at);
                LIMITS.due(run, "joined " + (at + 1) + " 0", upwards ? 0 : at);
            }
            for (int point = 0; point < 12; point++) {
                LIMITS.due(run, "joined " + point + " 0", 0);
            }
            // Without the middle one of the row there are two.
            run.call("strike 5");
            for (int point = 0; point < 12; point++) {
                LIMITS.due(run, "joined " + point + " 0", point < 6 ? 0 : 6);
            }
        }
        // Pairs that come together by one more, and 120 JOININGS of which each does.
        LIMITS.all(LIMITS.run(Limits.rows(Limits.times(12, "point"), List.of("join 11 7", "join 3 9", "join 9 11"))),
            "joined 7 0", 3, "joined 11 0", 3, "joined 9 0", 3, "joined 3 0", 3, "joined 8 0", 8);
        LIMITS.all(LIMITS.run(Limits.rows(Limits.times(12, "point"), Limits.times(119, "join 11 10"), List.of("join 0 11"))),
            "joined 10 0", 0, "count 4", 120);
        LIMITS.all(LIMITS.run("point", "point", "days 9999", "join 1 0"), "joined 1 9998", 1, "joined 1 9999", 0,
            "joined 0 0", 0);
    }

    private static void opposedNotWithinOne() {
        LIMITS.sentence("they are OPPOSED if any two of theirs are (not within one)");
        List<String> laid = List.of("court 1 0", "point", "point", "point", "statute 0 0 true", "statute 2 0 true");
        LIMITS.all(behind(laid, "oppose 0 1 true"), "quarrel 0 0 0 0", 0, "join 1 2", 2, "quarrel 0 0 0 0", 1, "join 0 1", 3,
            "quarrel 0 0 0 0", 0);
        LIMITS.all(behind(laid, "oppose 0 2 true"), "quarrel 0 0 0 0", 1, "join 2 0", 2, "quarrel 0 0 0 0", 0, "strike 2", 3,
            "quarrel 0 0 0 0", 1);
    }

    private static void undone() {
        LIMITS.sentence("UNDONE if an UNDOING of it is of a LATER CASE that isn't UNDONE itself.");
        // 32 CASES, each UNDONE by the next one: as of each DAY the last one there is not, and so on in turn.
        List<String> calls = new ArrayList<>(List.of("court 1 0", "point", "days 31"));
        for (int kase = 0; kase < 32; kase++) {
            calls.add("kase 0 " + kase + " 1 0");
        }
        for (int kase = 1; kase < 32; kase++) {
            calls.add("treats 4 " + kase + " " + (kase - 1) + " -1");
        }
        for (int day = 0; day < 32; day++) {
            Run run = LIMITS.run(calls);
            for (int kase = 0; kase < 32; kase++) {
                LIMITS.due(run, "asked " + kase + " 0 6 " + day + " 31", kase > day ? -1 : (day - kase) % 2);
            }
        }
        // All of one DAY: the numbers alone tell which is LATER. CASE 31 undoes all others.
        List<String> one = new ArrayList<>(List.of("court 1 0", "point"));
        one.addAll(Limits.times(32, "kase 0 0 1 0"));
        for (int kase = 0; kase < 31; kase++) {
            one.add("treats 4 31 " + kase + " 0");
        }
        Run run = LIMITS.run(one);
        for (int kase = 0; kase < 32; kase++) {
            LIMITS.due(run, "asked " + kase + " 0 6 0 0", kase < 31 ? 1 : 0);
        }
        // One of two that undo it is UNDONE, then both are; of the same DAY as d, and of the DAY behind it.
        LIMITS.all(LIMITS.run("court 1 0", "point", "days 9", "kase 0 1 1 0", "kase 0 2 1 0", "kase 0 2 1 0", "kase 0 3 1 0",
            "treats 4 1 0 0", "treats 4 2 0 0", "treats 4 3 1 0"), "asked 0 0 6 1 9", 0, "asked 0 0 6 2 9", 1,
            "asked 0 0 6 3 9", 1, "treats 4 3 2 0", 3, "asked 0 0 6 3 9", 0, "asked 0 0 6 2 9", 1);
    }

    private static void heldByMoreThanHalf() {
        LIMITS.sentence("how many of its JUDGES have a HOLDING of it. HELD on F: VOTES are more than half of the JUDGES.");
        int[][] held = {{0, 1}, {0, 0, 1}, {0, 0, 1, 1}};
        for (int judges = 1; judges <= 3; judges++) {
            Run run = LIMITS.run("court 1 0", "point", "kase 0 0 " + judges + " 0");
            for (int votes = 0; votes <= judges; votes++) {
                LIMITS.all(run, "asked 0 0 0 0 0", votes, "asked 0 0 1 0 0", held[judges - 1][votes], "stand 0 0 0 0 0",
                    votes == 0 ? 0 : held[judges - 1][votes] == 1 ? 3 : 1);
                // The same JUDGE's HOLDING again, and his SAYING, are no VOTES more.
                if (votes > 0) {
                    run.call("holds 0 " + (votes - 1) + " 0 0 false");
                    run.call("holds 0 " + (votes - 1) + " 0 0 true");
                    LIMITS.due(run, "asked 0 0 0 0 0", votes);
                }
                run.call("holds 0 " + votes + " 0 0 false");
            }
        }
        Run sayings = LIMITS.run("court 1 0", "point", "kase 0 0 1 0", "holds 0 0 0 0 true");
        LIMITS.all(sayings, "asked 0 0 0 0 0", 0, "asked 0 0 1 0 0", 0, "stand 0 0 0 0 0", 1);
    }

    private static void needsAllInFacts() {
        LIMITS.sentence("whose NEEDS are all in F");
        for (int fact = 0; fact < 10; fact++) {
            int bit = 1 << fact;
            Run run = LIMITS.run("court 1 0", "point", "kase 0 0 1 0", "holds 0 0 0 " + bit + " false", "kase 0 0 1 " + bit,
                "holds 1 0 0 " + bit + " false");
            LIMITS.all(run, "stand 0 0 " + bit + " 0 0", 3, "stand 0 0 " + (1023 - bit) + " 0 0", 0, "stand 0 0 1023 0 0", 3,
                "stand 0 0 0 0 0", 0, "asked 0 0 0 0 0", 0, "asked 1 0 0 0 0", 1);
        }
        LIMITS.all(LIMITS.run("court 1 0", "point", "kase 0 0 1 0", "holds 0 0 0 1023 false"), "stand 0 0 1023 0 0", 3,
            "stand 0 0 1022 0 0", 0, "stand 0 0 511 0 0", 0);
        LIMITS.all(LIMITS.run("court 1 0", "point", "kase 0 0 1 0", "holds 0 0 0 3 true"), "stand 0 0 3 0 0", 1,
            "stand 0 0 1 0 0", 0, "stand 0 0 2 0 0", 0, "stand 0 0 7 0 0", 1);
        // One that NEEDS more than there is does not lead, though the next CASE of a lesser RANK NEEDS nothing.
        LIMITS.all(LIMITS.run("court 9 1", "court 1 0", "court 1 0", "point", "kase 0 0 1 0", "holds 0 0 0 1 true",
            "kase 1 0 1 0", "holds 1 0 0 0 false"), "lead 0 2 0 0 0", 1, "lead 0 2 1 0 0", 0, "lead 0 1 0 0 0", 1);
        // 120 of them, the last of the last CASE.
        List<String> most = new ArrayList<>(List.of("court 1 0", "point"));
        most.addAll(Limits.times(32, "kase 0 0 1 1"));
        for (int note = 0; note < 120; note++) {
            most.add("holds " + (note < 31 ? note : 31) + " 0 0 " + (note == 119 ? 512 : 1) + " false");
        }
        LIMITS.all(LIMITS.run(most), "count 4", 120, "stand 0 0 0 0 0", 0, "lead 0 0 0 0 0", -1, "stand 0 0 512 0 0", 3,
            "lead 0 0 512 0 0", 31, "asked 31 0 0 0 0", 1, "asked 0 0 0 0 0", 1, "hangs 31 0 512 0 0", 1,
            "hangs 31 0 1 0 0", 0);
    }

    private static void overruledByALater() {
        LIMITS.sentence("OVERRULED: if an OVERRULING of it is of a LATER CASE that isn't UNDONE and of which overrules holds");
        List<String> ready = List.of("court 1 0", "point", "days 9999", "kase 0 0 1 0", "kase 0 9999 3 1", "kase 0 0 1 0",
            "holds 1 0 0 1 false", "holds 1 1 0 3 false", "treats 2 1 0 0");
        // DAYS from the one to the other are 9999 at most, 0 at least; VOTES on its own FACTS, not on others.
        LIMITS.all(LIMITS.run(ready), "asked 0 0 2 9998 9999", 0, "asked 0 0 2 9999 9999", 1, "text overrules age=9999;", 1,
            "asked 0 0 2 9999 9999", 1, "text overrules age<9999;", 1, "asked 0 0 2 9999 9999", 0, "text overrules votes=1;",
            1, "asked 0 0 2 9999 9999", 1, "text overrules votes>1;", 1, "asked 0 0 2 9999 9999", 0, "treats 2 2 0 0", 3,
            "text overrules age=0;", 1, "asked 0 0 2 0 9999", 1, "asked 2 0 2 9999 9999", 0);
        // By CASE 0, if it is the LATER one; DAYS are counted from the one to the other.
        LIMITS.all(LIMITS.run("court 1 0", "point", "days 9", "kase 0 7 1 0", "kase 0 4 1 0", "treats 2 0 1 0"),
            "asked 1 0 2 6 9", 0, "asked 1 0 2 7 9", 1, "asked 0 0 2 7 9", 0, "text overrules age=3;", 1, "asked 1 0 2 7 9",
            1, "text overrules age=2 or age=4;", 1, "asked 1 0 2 7 9", 0);
        // DOUBTS of the one that is overruled, not of the one that overrules; UNDONE ones overrule no more.
        LIMITS.all(behind(ready, "text overrules doubted=1;"), "asked 0 0 2 9999 9999", 0, "treats 3 1 0 0", 3,
            "asked 0 0 2 9999 9999", 1, "kase 0 9999 1 0", 3, "treats 4 3 1 0", 4, "asked 0 0 2 9999 9999", 0,
            "asked 0 0 3 9999 9999", 0, "strike 4", 5, "asked 0 0 2 9999 9999", 1);
        toldTwice();
    }

    private static void toldTwice() {
        LIMITS.sentence("if an OVERRULING of it is of a LATER CASE; if an UNDOING of it is of a LATER CASE");
        // The same CASE may tell it again, and of POINTS that are JOINED later: one is enough, and all must be STRUCK.
        List<String> ready = Limits.rows(COURTS, plain(0, 1, 10, 0, 0), List.of("kase 0 20 1 0"));
        LIMITS.all(behind(ready, "treats 2 1 0 0"), "asked 0 0 2 50 50", 1, "treats 2 1 0 0", 2, "asked 0 0 2 50 50", 1,
            "stand 0 1 0 50 50", 0, "strike 1", 3, "asked 0 0 2 50 50", 1, "strike 2", 4, "asked 0 0 2 50 50", 0,
            "stand 0 1 0 50 50", 3);
        LIMITS.all(behind(ready, "treats 2 1 0 1", "join 0 1"), "asked 0 0 2 50 50", 1, "treats 2 1 0 0", 3,
            "asked 0 0 2 50 50", 1, "asked 0 1 2 50 50", 1, "strike 2", 4, "asked 0 1 2 50 50", 1, "asked 0 0 2 50 50", 1,
            "strike 3", 5, "asked 0 0 2 50 50", 0, "asked 0 1 2 50 50", 1);
        LIMITS.all(behind(ready, "treats 4 1 0 0"), "asked 0 0 6 50 50", 1, "treats 4 1 0 1", 2, "asked 0 0 6 50 50", 1,
            "strike 2", 3, "asked 0 0 6 50 50", 1, "strike 1", 4, "asked 0 0 6 50 50", 0);
    }

    private static void doubtsAndDoubted() {
        LIMITS.sentence("DOUBTS: of how many LATER CASES that aren't UNDONE. DOUBTED: so many as doubts says, or more.");
        for (int doubts = 1; doubts <= 9; doubts++) {
            Run run = behind(COURTS, "kase 0 10 1 0", "holds 0 0 0 0 false", "text doubts " + doubts + ";");
            for (int told = 0; told <= 10; told++) {
                LIMITS.all(run, "asked 0 0 3 50 50", told, "stand 0 1 0 50 50", told >= doubts ? 2 : 3, "lead 0 1 0 50 50", 0);
                run.call("kase 2 " + (11 + told) + " 1 0");
                // Told twice by one CASE it is one DOUBT.
                run.call("treats 3 " + (told + 1) + " 0 0");
                run.call("treats 3 " + (told + 1) + " 0 0");
            }
            LIMITS.all(run, "stand 0 1 0 " + (10 + doubts) + " 50", 2, "stand 0 1 0 " + (9 + doubts) + " 50", 3);
        }
        List<String> calls = new ArrayList<>(List.of("court 1 0", "point"));
        calls.addAll(Limits.times(32, "kase 0 0 1 0"));
        for (int kase = 1; kase < 32; kase++) {
            calls.add("treats 3 " + kase + " 0 0");
        }
        // Of this CASE and this POINT: not of the one beside it.
        Run grid = LIMITS.run(Limits.rows(COURTS, Limits.times(3, "kase 0 10 1 0"), List.of("treats 3 2 1 0",
            "treats 2 2 0 1")));
        LIMITS.all(grid, "asked 1 0 3 50 50", 1, "asked 0 1 3 50 50", 0, "asked 1 1 3 50 50", 0, "asked 0 0 3 50 50", 0,
            "asked 0 1 2 50 50", 1, "asked 1 0 2 50 50", 0, "asked 1 1 2 50 50", 0, "asked 0 0 2 50 50", 0);
        Run run = LIMITS.run(calls);
        LIMITS.all(run, "asked 0 0 3 0 0", 31, "asked 1 0 3 0 0", 0, "treats 4 31 30 0", 31, "asked 0 0 3 0 0", 30,
            "treats 4 31 1 0", 32, "asked 0 0 3 0 0", 29);
    }

    private static void latestStatute() {
        LIMITS.sentence("STRUCK: if the latest STATUTE for it (by DAY, then by number) strikes it; LAID, if that lays it.");
        Run run = behind(COURTS, "statute 0 20 true");
        LIMITS.all(run, "stand 0 0 0 19 50", 0, "stand 0 0 0 20 50", 4, "stand 0 0 0 9999 50", 4, "statute 0 20 false", 1,
            "stand 0 0 0 20 50", 0, "statute 0 19 true", 2, "stand 0 0 0 19 50", 4, "stand 0 0 0 18 50", 0,
            "stand 0 0 0 20 50", 0, "statute 0 20 true", 3, "stand 0 0 0 20 50", 4, "statute 0 21 false", 4,
            "stand 0 0 0 20 50", 4, "stand 0 0 0 21 50", 0, "lead 0 0 0 20 50", -1, "lead 0 0 0 21 50", -1);
        Run ends = behind(COURTS, "statute 0 0 true", "statute 0 9999 false", "statute 1 0 false", "statute 1 9999 true");
        LIMITS.all(ends, "stand 0 0 0 0 50", 4, "stand 0 0 0 9998 50", 4, "stand 0 0 0 9999 50", 0, "stand 1 0 0 0 50", 0,
            "stand 1 0 0 9998 50", 0, "stand 1 0 0 9999 50", 4);
        // 120 of one DAY: the last number counts.
        Run most = behind(COURTS);
        for (int note = 0; note < 120; note++) {
            LIMITS.all(most, "statute 0 5 " + (note % 2 == 0), note, "stand 0 0 0 5 50", note % 2 == 0 ? 4 : 0);
        }
        LIMITS.all(most, "statute 0 5 true", -1, "stand 0 0 0 5 50", 0);
    }

    private static void takenByAStatute() {
        LIMITS.sentence("A STATUTE that strikes takes all CASES of its DAY and ahead for this POINT, also if it is laid later.");
        List<String> ready = Limits.rows(COURTS, plain(0, 0, 19, 0, 0), plain(1, 0, 20, 0, 0), plain(2, 0, 21, 0, 0),
            List.of("statute 0 20 false"));
        LIMITS.all(LIMITS.run(ready), "asked 0 0 4 50 50", 1, "asked 1 0 4 50 50", 1, "asked 2 0 4 50 50", 0,
            "asked 0 0 4 19 50", 0, "asked 0 0 4 20 50", 1, "asked 0 1 4 50 50", 0, "stand 0 1 0 20 50", 0,
            "stand 0 1 0 21 50", 3, "statute 0 20 true", 4, "asked 1 0 4 50 50", 1, "stand 0 1 0 50 50", 4,
            "statute 0 22 false", 5, "stand 0 1 0 50 50", 0, "asked 2 0 4 50 50", 1, "asked 2 0 4 21 50", 0);
        LIMITS.all(LIMITS.run("court 1 0", "point", "days 9999", "kase 0 0 1 0", "kase 0 9999 1 0", "statute 0 0 false",
            "statute 0 9999 false"), "asked 0 0 4 0 9999", 1, "asked 1 0 4 9999 9999", 1, "strike 1", 2,
            "asked 1 0 4 9999 9999", 0, "asked 0 0 4 9999 9999", 1);
    }

    private static void goodAndBinding() {
        LIMITS.sentence("GOOD: it isn't UNDONE, it is HELD there on F, not OVERRULED, not taken by a STATUTE, it isn't BLIND");
        List<String> ready = Limits.rows(COURTS, plain(0, 1, 10, 0, 0), List.of("kase 1 20 1 0"));
        Object[][] spoilers = {{"treats 4 1 0 0", 0}, {"strike 0", 0}, {"treats 2 1 0 0", 0}, {"statute 0 10 false", 0},
            {"statute 1 10 true", 1}};
        for (Object[] spoiler : spoilers) {
            LIMITS.all(LIMITS.run(ready), "stand 0 1 0 50 50", 3, spoiler[0], 1, "stand 0 1 0 50 50", spoiler[1],
                "strike 1", 2, "stand 0 1 0 50 50", 3);
        }
        LIMITS.sentence("BINDS (votes: VOTES on F, age: DAYS up to d, doubted: DOUBTS)");
        LIMITS.all(behind(COURTS, "kase 0 0 2 0", "holds 0 0 0 0 false", "holds 0 1 0 512 false", "text binds age=9999;"),
            "binds 0 0 1 0 9999 50", 1, "binds 0 0 1 0 9998 50", 0, "stand 0 1 512 9999 50", 3, "stand 0 1 512 9998 50", 1,
            "text binds votes=1;", 1, "binds 0 0 1 511 50 50", 1, "binds 0 0 1 512 50 50", 0, "text binds age=0;", 1,
            "binds 0 0 1 0 0 50", 1, "binds 0 0 1 0 1 50", 0);
    }

    private static void blind() {
        LIMITS.sentence("BLIND: at its own DAY (as KNOWN on k; of CASES that it is LATER than alone) some GOOD CASE did BIND");
        // Of its own DAY with a lesser number, of the DAY ahead; not of its own DAY with a greater number, nor behind.
        LIMITS.all(LIMITS.run(Limits.rows(COURTS, plain(0, 0, 10, 0, 0), plain(1, 0, 10, 0, 1))), "asked 1 1 5 50 50", 1,
            "asked 0 0 5 50 50", 0, "forgotten 1 50", 1, "forgotten 0 50", 0, "asked 1 1 5 10 50", 1, "forgotten 1 49", 0);
        LIMITS.all(LIMITS.run(Limits.rows(COURTS, plain(0, 0, 10, 0, 0), plain(1, 0, 9, 0, 1))), "asked 1 1 5 50 50", 0,
            "asked 0 0 5 50 50", 1, "forgotten 0 50", 2);
        // As KNOWN on k: told a day behind, it is not missed yet.
        LIMITS.all(LIMITS.run(Limits.rows(COURTS, plain(0, 0, 20, 0, 1), List.of("days 1"), plain(1, 0, 10, 0, 0))),
            "asked 0 1 5 50 50", 0, "asked 0 1 5 50 51", 1, "forgotten 0 50", 0, "forgotten 0 51", 2);
        // On its own FACTS alone, and only if it HELD the POINT on them.
        LIMITS.all(behind(COURTS, "kase 0 10 1 0", "holds 0 0 0 512 false", "kase 1 20 1 512", "holds 1 0 1 0 false",
            "kase 1 20 1 511", "holds 2 0 1 0 false", "kase 1 20 2 512", "holds 3 0 1 0 false"), "asked 1 1 5 50 50", 1,
            "asked 2 1 5 50 50", 0, "asked 3 1 5 50 50", 0, "holds 3 1 1 512 false", 4, "asked 3 1 5 50 50", 1,
            "stand 1 1 511 50 50", 3, "lead 1 1 511 50 50", 2);
        // For a POINT that it HELD alone: not for another one that is OPPOSED to the same.
        LIMITS.all(LIMITS.run(Limits.rows(COURTS, List.of("point", "oppose 1 2 true"), plain(0, 0, 10, 0, 1),
            plain(1, 0, 20, 0, 2))), "asked 1 2 5 50 50", 1, "asked 1 0 5 50 50", 0, "asked 1 1 5 50 50", 0);
        // A DOUBTED one binds too; age is told up to its own DAY.
        LIMITS.all(LIMITS.run(Limits.rows(COURTS, plain(0, 0, 10, 0, 0), plain(1, 1, 20, 0, 1), List.of("kase 0 15 1 0",
            "treats 3 2 0 0", "text doubts 1;"))), "asked 1 1 5 50 50", 1, "text binds age=10;", 1, "asked 1 1 5 50 50", 1,
            "text binds age=9;", 1, "asked 1 1 5 50 50", 0, "text binds doubted=1;", 1, "asked 1 1 5 50 50", 1);
    }

    private static void blindByLaw() {
        LIMITS.sentence("BLIND: if at its own DAY an OPPOSED POINT was LAID");
        LIMITS.all(LIMITS.run(Limits.rows(COURTS, plain(0, 0, 10, 0, 0), List.of("statute 1 11 true"))), "asked 0 0 5 50 50",
            0, "statute 1 10 true", 2, "asked 0 0 5 50 50", 1, "forgotten 0 50", 0, "statute 1 10 false", 3,
            "asked 0 0 5 50 50", 0, "oppose 0 1 false", true, "strike 3", 4, "asked 0 0 5 50 50", 0, "oppose 1 0 true", true,
            "asked 0 0 5 50 50", 1, "stand 0 1 0 50 50", 1, "lead 0 1 0 50 50", 0);
    }

    private static void standOfEach() {
        LIMITS.sentence("STAND: 4 it is LAID; else 3 GOOD, BINDS, isn't DOUBTED; 2 all DOUBTED; else 1 some CASE; else 0.");
        Run run = LIMITS.run(Limits.rows(COURTS, List.of("kase 2 10 1 0"), List.of("text doubts 1;")));
        LIMITS.all(run, "stand 0 1 0 50 50", 0, "lead 0 1 0 50 50", -1, "holds 0 0 0 0 true", 0, "stand 0 1 0 50 50", 1,
            "lead 0 1 0 50 50", 0, "kase 0 11 1 0", 1, "holds 1 0 0 0 false", 1, "kase 2 12 1 0", 2, "treats 3 2 1 0", 2,
            "stand 0 1 0 50 50", 2, "lead 0 1 0 50 50", 1, "kase 1 9 1 0", 3, "holds 3 0 0 0 false", 3,
            "stand 0 1 0 50 50", 3, "lead 0 1 0 50 50", 3, "statute 0 50 true", 4, "stand 0 1 0 50 50", 4,
            "lead 0 1 0 50 50", -1, "stand 0 1 0 49 50", 3);
        // BLIND or not: one that is BLIND still persuades.
        LIMITS.all(LIMITS.run(Limits.rows(COURTS, plain(0, 0, 10, 0, 0), plain(1, 0, 11, 0, 1))), "stand 1 1 0 50 50", 1,
            "lead 1 1 0 50 50", 1, "stand 0 1 0 50 50", 3);
    }

    private static void leads() {
        LIMITS.sentence("LEAD: (those that aren't DOUBTED ahead) that of the greatest RANK, then the LATEST");
        List<String> calls = new ArrayList<>(List.of("court 0 0", "court 9 0", "court 0 0", "point", "days 50"));
        for (int kase = 0; kase < 32; kase++) {
            calls.addAll(plain(kase, kase % 2, kase < 16 ? 50 - kase : 20, 0, 0));
        }
        Run run = LIMITS.run(calls);
        LIMITS.all(run, "lead 0 0 0 50 50", 1, "lead 0 0 0 48 50", 3, "lead 0 0 0 20 50", 31, "lead 0 0 0 19 50", -1,
            "text binds rank=0;", 1, "lead 0 0 0 50 50", 0, "lead 0 0 0 20 50", 30, "text binds 0;", 1, "lead 0 0 0 50 50", 1,
            "lead 0 0 0 20 50", 31);
        // One DOUBTED of the greatest RANK gives way to one of the least; if all are, RANK tells again.
        LIMITS.all(LIMITS.run(Limits.rows(List.of("court 9 0", "court 0 0", "point", "days 9"), plain(0, 0, 5, 0, 0),
            plain(1, 1, 1, 0, 0), List.of("kase 0 9 1 0", "treats 3 2 0 0", "text doubts 1;"))), "lead 0 1 0 9 9", 1,
            "lead 0 1 0 8 9", 0, "treats 3 2 1 0", 3, "lead 0 1 0 9 9", 0, "stand 0 1 0 9 9", 2);
        LIMITS.sentence("NONE: a STAND of 0 or 4.");
        LIMITS.all(LIMITS.run(Limits.rows(COURTS, plain(0, 0, 10, 0, 0))), "lead 1 1 0 50 50", -1, "lead 0 1 0 9 50", -1,
            "statute 0 30 true", 1, "lead 0 1 0 30 50", -1, "lead 0 1 0 29 50", 0);
    }

    private static void askedOfAKnownCase() {
        LIMITS.sentence("NONE: no such ones, or the CASE isn't KNOWN by then or of a later DAY.");
        List<String> ready = List.of("court 1 0", "point", "days 30", "kase 0 20 1 0", "days 5");
        for (int what = 0; what <= 6; what++) {
            String asked = "asked 0 0 " + what;
            LIMITS.refused(ready, asked + " 19 30", -1);
            LIMITS.refused(ready, asked + " 20 29", -1);
            LIMITS.refused(ready, asked + " 0 0", -1);
            LIMITS.all(LIMITS.run(ready), asked + " 20 30", 0, asked + " 9999 9999", 0, asked + " 20 9999", 0,
                asked + " 9999 30", 0);
        }
        // Each answer at its least and its greatest.
        List<String> calls = new ArrayList<>(List.of("court 1 0", "point", "point", "oppose 0 1 true", "statute 1 0 true"));
        calls.addAll(List.of("kase 0 0 3 0", "holds 0 0 0 0 false", "holds 0 1 0 0 false", "holds 0 2 0 0 false"));
        calls.addAll(List.of("kase 0 0 1 0", "treats 2 1 0 0", "treats 3 1 0 0", "treats 4 1 0 0", "statute 0 0 false"));
        int[] most = {3, 1, 1, 1, 1, 1, 1};
        for (int what = 0; what <= 6; what++) {
            LIMITS.due(LIMITS.run(calls), "asked 0 0 " + what + " 0 0", most[what]);
            LIMITS.due(LIMITS.run(calls), "asked 1 1 " + what + " 0 0", 0);
        }
    }

    private static void bindsOfAKnownCase() {
        LIMITS.sentence("Whether a CASE would BIND a COURT (whether it is GOOD or not); NONE as of asked(), no such COURT, FACTS.");
        List<String> ready = List.of("court 1 0", "point", "days 30", "kase 0 20 1 0", "days 5");
        LIMITS.refused(ready, "binds 0 0 0 0 19 30", -1);
        LIMITS.refused(ready, "binds 0 0 0 0 20 29", -1);
        LIMITS.refused(ready, "binds 0 0 0 1024 20 30", -1);
        LIMITS.refused(ready, "binds 0 0 1 0 20 30", -1);
        LIMITS.all(LIMITS.run(ready), "binds 0 0 0 0 20 30", 1, "binds 0 0 0 1023 9999 9999", 1, "statute 0 20 false", 0,
            "binds 0 0 0 0 20 35", 1, "kase 0 35 1 0", 1, "treats 4 1 0 0", 1, "binds 0 0 0 0 35 35", 1);
    }

    private static void quarrels() {
        LIMITS.sentence("QUARREL: the fewest POINTS of a STAND of 3 or 4 such that of the others no two are OPPOSED; least bits");
        List<String> laid = new ArrayList<>(List.of("court 1 0"));
        laid.addAll(Limits.times(12, "point"));
        for (int point = 0; point < 12; point++) {
            laid.add("statute " + point + " 0 true");
        }
        List<String> all = new ArrayList<>(laid);
        for (int a = 0; a < 12; a++) {
            for (int b = 0; b < a; b++) {
                all.add("oppose " + a + " " + b + " true");
            }
        }
        LIMITS.due(LIMITS.run(laid), "quarrel 0 0 0 0", 0);
        LIMITS.all(LIMITS.run(all), "quarrel 0 0 0 0", 2047, "statute 11 0 false", 12, "quarrel 0 0 0 0", 1023,
            "oppose 10 9 false", true, "quarrel 0 0 0 0", 511);
        LIMITS.all(behind(laid, "oppose 10 11 true"), "quarrel 0 0 0 0", 1 << 10, "oppose 11 9 true", true,
            "quarrel 0 0 0 0", 1 << 11, "oppose 0 1 true", true, "quarrel 0 0 0 0", 1 << 11 | 1);
        // Six pairs: of each the lesser.
        List<String> pairs = new ArrayList<>(laid);
        for (int point = 0; point < 12; point += 2) {
            pairs.add("oppose " + point + " " + (point + 1) + " true");
        }
        LIMITS.due(LIMITS.run(pairs), "quarrel 0 0 0 0", 0b010101010101);
        LIMITS.sentence("QUARREL (bits); 0: there is none");
        LIMITS.due(LIMITS.run("court 1 0"), "quarrel 0 0 0 0", 0);
        // A STAND of 2 and of 1 is no part of it, one of 3 is.
        LIMITS.all(LIMITS.run(Limits.rows(COURTS, List.of("text doubts 1;", "kase 0 10 1 0", "holds 0 0 0 1 false",
            "statute 1 10 true", "strike 1", "statute 1 11 true"))), "quarrel 1 1 50 50", 1, "quarrel 1 0 50 50", 0,
            "quarrel 2 1 50 50", 0, "kase 1 20 1 0", 1, "treats 3 1 0 0", 4, "quarrel 1 1 50 50", 0, "quarrel 1 1 19 50", 1);
    }

    private static void forgottenBits() {
        LIMITS.sentence("FORGOTTEN (bits of CASES 0 .. 31, as an int); 0: none, no such ones, not KNOWN.");
        // CASE 0 is the LATEST and missed all others, CASE 31 among them.
        List<String> calls = new ArrayList<>(COURTS);
        calls.addAll(plain(0, 1, 50, 0, 1));
        for (int kase = 1; kase < 32; kase++) {
            calls.addAll(plain(kase, 0, 10 + kase, 0, 0));
        }
        Run run = LIMITS.run(calls);
        LIMITS.all(run, "forgotten 0 50", -2, "forgotten 0 49", 0, "forgotten 31 50", 0, "asked 0 1 5 50 50", 1);
        for (int kase = 1; kase < 31; kase++) {
            run.call("strike " + kase);
        }
        LIMITS.all(run, "forgotten 0 50", Integer.MIN_VALUE, "strike 31", 62, "forgotten 0 50", 0, "strike 1", 63);
        // CASE 31 missed CASES 0 .. 30.
        List<String> last = new ArrayList<>(COURTS);
        for (int kase = 0; kase < 31; kase++) {
            last.addAll(plain(kase, 0, 10, 0, 0));
        }
        last.addAll(plain(31, 1, 10, 0, 1));
        LIMITS.all(LIMITS.run(last), "forgotten 31 50", Integer.MAX_VALUE, "forgotten 30 50", 0, "forgotten 31 49", 0,
            "forgotten 32 50", 0, "forgotten -1 50", 0, "forgotten 31 -1", 0, "forgotten 31 10000", 0,
            "forgotten 31 9999", Integer.MAX_VALUE);
        // For some POINT: those of two POINTS come together.
        List<String> two = Limits.rows(COURTS, List.of("point", "point", "oppose 2 3 true"), plain(0, 0, 10, 0, 0),
            plain(1, 0, 10, 0, 2), plain(2, 1, 20, 0, 1), List.of("holds 2 0 3 0 false"));
        LIMITS.all(LIMITS.run(two), "forgotten 2 50", 3, "strike 2", 4, "forgotten 2 50", 2);
    }

    private static void apartByFacts() {
        LIMITS.sentence("APART: the fewest FACTS such that no two are alike in all of them; the least bits; none, if the same");
        LIMITS.all(LIMITS.run(COURTS), "apart 0 1 50 50", 0, "apart 0 0 50 50", 0);
        for (int fact = 0; fact < 10; fact++) {
            LIMITS.all(LIMITS.run(Limits.rows(COURTS, plain(0, 0, 10, 1 << fact, 0), plain(1, 0, 11, 0, 1))),
                "apart 0 1 50 50", 1 << fact, "apart 1 0 50 50", 1 << fact, "apart 0 1 10 50", 0, "apart 0 1 11 50", 1 << fact,
                "apart 0 1 50 49", 0, "apart 0 0 50 50", -1);
        }
        LIMITS.all(LIMITS.run(Limits.rows(COURTS, plain(0, 0, 10, 1023, 0), plain(1, 0, 10, 0, 1))), "apart 0 1 50 50", 1);
        List<String> ten = new ArrayList<>(Limits.rows(COURTS, plain(0, 0, 10, 1023, 0)));
        for (int fact = 0; fact < 10; fact++) {
            ten.addAll(plain(1 + fact, 0, 10, 1023 - (1 << fact), 1));
        }
        LIMITS.all(LIMITS.run(ten), "apart 0 1 50 50", 1023, "strike 1", 11, "apart 0 1 50 50", 1022, "strike 10", 12,
            "apart 0 1 50 50", 510);
        // The same FACTS, or one CASE that HELD both.
        LIMITS.all(LIMITS.run(Limits.rows(COURTS, plain(0, 0, 10, 1023, 0), plain(1, 0, 10, 1023, 1))), "apart 0 1 50 50", -1);
        LIMITS.all(LIMITS.run(Limits.rows(COURTS, plain(0, 0, 10, 0, 0), List.of("holds 0 0 1 0 false"))), "apart 0 1 50 50",
            -1, "strike 1", 2, "apart 0 1 50 50", 0);
        // 16 against 16 CASES: all FACTS that they differ in are needed.
        List<String> many = new ArrayList<>(COURTS);
        for (int kase = 0; kase < 32; kase++) {
            many.addAll(plain(kase, 0, 10, kase << 5, Integer.bitCount(kase) % 2));
        }
        LIMITS.all(LIMITS.run(many), "apart 0 1 50 50", 31 << 5, "apart 1 0 50 50", 31 << 5);
    }

    private static void hangsOnACase() {
        LIMITS.sentence("HANGS: the POINTS whose STAND would be another one, were it not there (nor its NOTES)");
        List<String> calls = new ArrayList<>(List.of("court 1 0", "court 2 0"));
        calls.addAll(Limits.times(12, "point"));
        calls.add("kase 0 0 1 0");
        for (int point = 0; point < 12; point++) {
            calls.add("holds 0 0 " + point + " 0 false");
        }
        LIMITS.all(LIMITS.run(calls), "hangs 0 0 0 0 0", 4095, "hangs 0 1 0 0 0", 4095, "strike 11", 12, "hangs 0 0 0 0 0",
            2047, "strike 0", 13, "hangs 0 0 0 0 0", 2046, "statute 1 0 true", 14, "hangs 0 0 0 0 0", 2044,
            "hangs 1 0 0 0 0", -1, "kase 0 0 1 0", 1, "hangs 1 0 0 0 0", 0, "treats 4 1 0 0", 15, "hangs 1 0 0 0 0", 2044,
            "hangs 0 0 0 0 0", 0);
        // OVERRULINGS, DOUBTS and UNDOINGS by it and of it are not there either.
        List<String> row = Limits.rows(COURTS, plain(0, 0, 10, 0, 0), List.of("kase 0 20 1 0", "kase 0 30 1 0",
            "text doubts 1;"));
        LIMITS.all(LIMITS.run(row), "hangs 1 1 0 50 50", 0, "treats 2 1 0 0", 1, "hangs 1 1 0 50 50", 1, "hangs 0 1 0 50 50",
            0, "treats 4 2 1 0", 2, "hangs 1 1 0 50 50", 0, "hangs 2 1 0 50 50", 1, "hangs 0 1 0 50 50", 1,
            "hangs 2 1 0 29 50", 0, "hangs 1 1 0 29 50", 1);
        LIMITS.all(LIMITS.run(row), "treats 3 1 0 0", 1, "hangs 1 1 0 50 50", 1, "treats 3 2 0 0", 2, "hangs 1 1 0 50 50", 0,
            "hangs 0 1 0 50 50", 1);
        LIMITS.all(LIMITS.run(row), "treats 4 1 0 0", 1, "hangs 1 1 0 50 50", 1, "hangs 1 1 0 19 50", 0);
    }

    private static void askingChangesNothing() {
        LIMITS.sentence("Nothing is promised beyond the answers and state changes described above");
        for (List<String> history : List.of(SOME, FULL)) {
            for (String call : new String[] {"stand 0 1 1023 60 60", "lead 1 1 3 60 60", "asked 1 1 5 60 55", "binds 0 0 1 0 60 60",
                "quarrel 1 1023 60 60", "forgotten 2 60", "apart 0 1 60 60", "hangs 0 1 1023 60 60", "joined 2 60", "look 4 1",
                "count 4", "fault 0", "stand 0 1 1 0 0", "joined 3 0", "hangs 3 0 0 9999 9999"}) {
                LIMITS.refused(history, call, LIMITS.run(history).call(call));
            }
        }
    }
}
