import java.util.ArrayList;
import java.util.List;

/** The limits of the Terms and of promises 1, 5 to 14, 24 and 25, a method for each sentence that names one. */
public final class TellingLimitsTest {
    private static final Limits LIMITS = new Limits();
    private static final int MIN = Limits.MIN;
    private static final int MAX = Limits.MAX;
    private static final List<String> NEW = List.of();
    private static final List<String> SOME = Limits.some();
    private static final List<String> FULL = Limits.full();

    public static void main(String[] args) {
        theHistories();
        usedFor512Calls();
        aNewObject();
        nothingThereYet();
        daysGoBy();
        mostCourts();
        ranksAndLands();
        mostPoints();
        opposing();
        casesThatCantBe();
        caseUpToToday();
        mostCases();
        holdingsThatCantBe();
        treatmentsThatCantBe();
        laterThan();
        statutesThatCantBe();
        joiningsThatCantBe();
        strikesThatCantBe();
        mostNotes();
        looking();
        counting();
        LIMITS.finish();
    }

    private static void theHistories() {
        LIMITS.sentence("(the histories of these tests are as they say)");
        LIMITS.all(LIMITS.run(SOME), "count 0", 60, "count 1", 3, "count 2", 4, "count 3", 5, "count 4", Limits.SOME_NOTES,
            "count 5", 5, "count 6", 1, "fault 0", 3, "fault 1", 8, "feed 0 0 0 0 0", 40);
        LIMITS.all(LIMITS.run(FULL), "count 0", 9999, "count 1", 6, "count 2", 12, "count 3", 32, "count 4", 120,
            "count 5", 0, "count 6", 2, "feed 0 0 0 0 0", -1);
    }

    private static void usedFor512Calls() {
        LIMITS.sentence("An object is used for at most 512 calls after it has been made");
        Run run = LIMITS.run(Limits.rows(FULL, Limits.times(511 - FULL.size(), "stand 3 0 1023 9999 9999")));
        LIMITS.due(run, "stand 3 0 1023 9999 9999", 4);
        LIMITS.due(LIMITS.run(Limits.times(511, "days 0")), "court 9 3", 0);
        // What later calls answer is free, but they end and throw nothing of the machine's.
        ReportedCases x = new ReportedCases();
        for (int i = 0; i < 2000; i++) {
            x.feed(i, i, i, i, i);
            x.kase(x.court(1, 1), x.days(1), 1, 1);
            x.holds(i, 0, x.point(), 0, false);
            x.strike(x.join(0, 1));
            x.hangs(i % 32, 0, 0, 9999, 9999);
        }
    }

    private static void aNewObject() {
        LIMITS.sentence("ReportedCases(): TODAY 0; no COURTS, POINTS, CASES, NOTES, RULES; an empty TAPE.");
        LIMITS.all(LIMITS.run(), "count 0", 0, "count 1", 0, "count 2", 0, "count 3", 0, "count 4", 0, "count 5", 0,
            "count 6", 2, "fault 0", 0, "fault 1", -1, "rules 1", -2, "feed 0 0 0 0 0", 20);
        LIMITS.all(LIMITS.run(), "court 0 0", 0, "point", 0, "kase 0 0 1 0", 0, "holds 0 0 0 0 false", 0);
        Run other = LIMITS.run(FULL);
        Run fresh = LIMITS.run();
        LIMITS.due(other, "count 3", 32);
        LIMITS.all(fresh, "count 0", 0, "count 3", 0, "count 4", 0, "feed 0 0 0 0 0", 20);
    }

    private static void nothingThereYet() {
        LIMITS.sentence("no COURTS, POINTS, CASES, NOTES");
        for (String call : new String[] {"kase 0 0 1 0", "holds 0 0 0 0 false", "holds 0 0 0 0 true", "treats 2 1 0 0",
            "treats 3 1 0 0", "treats 4 1 0 0", "statute 0 0 true", "statute 0 0 false", "join 0 1", "strike 0",
            "stand 0 0 0 0 0", "lead 0 0 0 0 0", "asked 0 0 0 0 0", "binds 0 0 0 0 0 0", "quarrel 0 0 0 0", "apart 0 0 0 0",
            "apart 0 1 0 0", "hangs 0 0 0 0 0", "joined 0 0"}) {
            LIMITS.refused(NEW, call, -1);
        }
        LIMITS.refused(NEW, "forgotten 0 0", 0);
        LIMITS.refused(NEW, "oppose 0 1 true", false);
        LIMITS.refused(NEW, "oppose 0 1 false", false);
        LIMITS.refused(NEW, "look 0 0", "throws.IndexOutOfBoundsException");
        // With COURTS and POINTS, but no CASE, nothing stands.
        Run run = LIMITS.run("court 1 0", "point", "point", "oppose 0 1 true");
        LIMITS.all(run, "stand 0 0 0 0 0", 0, "lead 0 0 0 0 0", -1, "asked 0 0 0 0 0", -1, "binds 0 0 0 0 0 0", -1,
            "quarrel 0 0 0 0", 0, "apart 0 1 0 0", 0, "apart 0 0 0 0", 0, "hangs 0 0 0 0 0", -1, "joined 1 0", 1,
            "forgotten 0 0", 0, "strike 0", -1);
    }

    private static void daysGoBy() {
        LIMITS.sentence("So many DAYS go by (0 .. 9999): TODAY; NONE, and nothing happens: no such number, beyond 9999.");
        LIMITS.all(LIMITS.run(), "days 0", 0, "days 1", 1, "days 9998", 9999, "days 0", 9999, "count 0", 9999);
        LIMITS.all(LIMITS.run(), "days 9999", 9999, "count 0", 9999);
        for (int n : Limits.bad(-1, 10000, -9999, 1 << 16)) {
            LIMITS.refused(NEW, "days " + n, -1);
            LIMITS.refused(SOME, "days " + n, -1);
            LIMITS.refused(FULL, "days " + n, -1);
        }
        LIMITS.refused(List.of("days 1"), "days 9999", -1);
        LIMITS.refused(SOME, "days 9940", -1);
        LIMITS.due(LIMITS.run(SOME), "days 9939", 9999);
        LIMITS.refused(FULL, "days 1", -1);
        LIMITS.refused(FULL, "days 9999", -1);
        // Sums that go round behind the greatest int.
        LIMITS.refused(SOME, "days " + (MAX - 59), -1);
        LIMITS.refused(SOME, "days " + (MIN + 9999), -1);
    }

    private static void mostCourts() {
        LIMITS.sentence("COURTS, at most 6, numbered from 0 on; NONE: or there are 6");
        Run run = LIMITS.run();
        for (int court = 0; court < 6; court++) {
            LIMITS.due(run, "court " + court + " 0", court);
        }
        LIMITS.all(run, "court 0 0", -1, "court 9 3", -1, "count 1", 6, "kase 5 0 1 0", 0, "kase 6 0 1 0", -1);
        LIMITS.refused(FULL, "court 0 0", -1);
        LIMITS.refused(FULL, "court 9 3", -1);
        LIMITS.refused(FULL, "court 10 0", -1);
    }

    private static void ranksAndLands() {
        LIMITS.sentence("a RANK 0 .. 9, a LAND 0 .. 3; NONE: no such RANK, LAND");
        int[][] bad = {Limits.bad(-1, 10), Limits.bad(-1, 4)};
        LIMITS.refusedEach(NEW, "court 0 0", bad, -1);
        LIMITS.refusedEach(SOME, "court 9 3", bad, -1);
        LIMITS.refused(NEW, "court -1 -1", -1);
        LIMITS.refused(NEW, "court 10 4", -1);
        // The least and the greatest ones count as told: RANK 9 against RANK 0 in LAND 3, and not into LAND 0.
        Run run = LIMITS.run("court 9 3", "court 0 3", "court 0 0", "court 9 0", "point", "kase 0 0 1 0", "kase 1 0 1 0");
        LIMITS.all(run, "binds 0 0 1 0 0 0", 1, "binds 0 0 2 0 0 0", 0, "binds 1 0 0 0 0 0", 0, "binds 1 0 1 0 0 0", 1,
            "text binds rank=9 and own=0 and not land;", 1, "binds 0 0 2 0 0 0", 1, "binds 0 0 1 0 0 0", 0,
            "text binds rank=0 and own=9 and land;", 1, "binds 1 0 0 0 0 0", 1, "binds 1 0 3 0 0 0", 0);
        for (int land = 0; land < 4; land++) {
            for (int other = 0; other < 4; other++) {
                LIMITS.due(LIMITS.run("court 2 " + land, "court 1 " + other, "point", "kase 0 0 1 0"),
                    "binds 0 0 1 0 0 0", land == other ? 1 : 0);
            }
        }
    }

    private static void mostPoints() {
        LIMITS.sentence("POINTS, at most 12, numbered from 0 on; NONE: there are 12.");
        Run run = LIMITS.run();
        for (int point = 0; point < 12; point++) {
            LIMITS.due(run, "joined " + point + " 0", -1);
            LIMITS.due(run, "point", point);
            LIMITS.due(run, "joined " + point + " 0", point);
        }
        LIMITS.all(run, "point", -1, "count 2", 12, "joined 11 0", 11, "joined 12 0", -1, "point", -1);
        LIMITS.refused(FULL, "point", -1);
    }

    private static void opposing() {
        LIMITS.sentence("Two POINTS are OPPOSED, or no more: true; false: no such ones, both the same, or it is so.");
        for (String on : new String[] {" true", " false"}) {
            for (int wrong : Limits.bad(-1, 4, 12, 32, 33)) {
                LIMITS.refused(SOME, "oppose " + wrong + " 0" + on, false);
                LIMITS.refused(SOME, "oppose 3 " + wrong + on, false);
                LIMITS.refused(SOME, "oppose " + wrong + " " + wrong + on, false);
            }
            LIMITS.refused(SOME, "oppose 0 0" + on, false);
            LIMITS.refused(SOME, "oppose 3 3" + on, false);
            LIMITS.refused(FULL, "oppose 11 12" + on, false);
            LIMITS.refused(FULL, "oppose 11 11" + on, false);
        }
        LIMITS.refused(SOME, "oppose 0 1 true", false);
        LIMITS.refused(SOME, "oppose 1 0 true", false);
        LIMITS.refused(SOME, "oppose 0 3 false", false);
        LIMITS.refused(SOME, "oppose 3 0 false", false);
        Run run = LIMITS.run(Limits.times(12, "point"));
        for (int a = 0; a < 12; a++) {
            for (int b = a + 1; b < 12; b++) {
                LIMITS.all(run, "oppose " + a + " " + b + " true", true, "oppose " + b + " " + a + " true", false);
            }
        }
        for (int a = 0; a < 12; a++) {
            for (int b = a + 1; b < 12; b++) {
                LIMITS.all(run, "oppose " + b + " " + a + " false", true, "oppose " + a + " " + b + " false", false);
            }
        }
    }

    private static void casesThatCantBe() {
        LIMITS.sentence("A CASE: its number; NONE: it can't be: a COURT, a DAY, 1 .. 3 JUDGES, FACTS: bits 0 .. 9");
        int[][] bad = {Limits.bad(-1, 3, 6), Limits.bad(-1, 61, 9999, 10000), Limits.bad(0, 4, -1),
            Limits.bad(-1, 1024, 2048, MIN + 1)};
        LIMITS.refusedEach(SOME, "kase 0 60 1 0", bad, -1);
        LIMITS.refusedEach(SOME, "kase 2 0 3 1023", bad, -1);
        Run run = LIMITS.run(SOME);
        LIMITS.all(run, "kase 0 0 1 0", 5, "kase 2 60 3 1023", 6, "kase 1 59 2 512", 7, "look 5 0", 0, "look 5 1", 0,
            "look 5 2", 1, "look 5 3", 0, "look 5 4", 60, "look 6 0", 2, "look 6 1", 60, "look 6 2", 3, "look 6 3", 1023,
            "look 6 4", 60, "look 7 3", 512, "count 3", 8);
        for (int fact = 0; fact < 10; fact++) {
            LIMITS.due(run, "kase 0 0 1 " + (1 << fact), 8 + fact);
        }
        for (int fact = 10; fact < 32; fact++) {
            LIMITS.due(run, "kase 0 0 1 " + (1 << fact), -1);
        }
    }

    private static void caseUpToToday() {
        LIMITS.sentence("a DAY (TODAY at most); TOLD on the DAY that is TODAY");
        LIMITS.all(LIMITS.run("court 0 0"), "kase 0 1 1 0", -1, "kase 0 0 1 0", 0, "days 1", 1, "kase 0 2 1 0", -1,
            "kase 0 1 1 0", 1, "look 0 4", 0, "look 1 4", 1, "look 1 1", 1);
        LIMITS.all(LIMITS.run("court 0 0", "days 9999"), "kase 0 10000 1 0", -1, "kase 0 9999 1 0", 0, "kase 0 0 1 0", 1,
            "look 0 1", 9999, "look 0 4", 9999, "look 1 1", 0, "look 1 4", 9999);
        LIMITS.refused(List.of("court 0 0", "days 5"), "kase 0 6 1 0", -1);
    }

    private static void mostCases() {
        LIMITS.sentence("CASES, at most 32, numbered from 0 on; NONE: or there are 32.");
        Run run = LIMITS.run("court 0 0", "point", "days 31");
        for (int kase = 0; kase < 32; kase++) {
            LIMITS.due(run, "kase 0 " + (31 - kase) + " 1 " + kase, kase);
        }
        LIMITS.all(run, "kase 0 0 1 0", -1, "count 3", 32, "look 31 1", 0, "look 31 3", 31, "look 0 1", 31,
            "look 32 0", "throws.IndexOutOfBoundsException", "holds 31 0 0 0 false", 0, "holds 32 0 0 0 false", -1,
            "asked 31 0 1 31 31", 1, "asked 32 0 1 31 31", -1);
        LIMITS.refused(FULL, "kase 0 0 1 0", -1);
        LIMITS.refused(FULL, "kase 5 9999 3 1023", -1);
        LIMITS.refused(FULL, "kase 0 0 0 0", -1);
    }

    private static void holdingsThatCantBe() {
        LIMITS.sentence("A HOLDING (said false), a SAYING (true): its NOTE's number; NONE: it can't be");
        int[][] bad = {Limits.bad(-1, 5, 32), Limits.bad(-1, 3), Limits.bad(-1, 4, 12), Limits.bad(-1, 1024, 2048)};
        for (String said : new String[] {" false", " true"}) {
            LIMITS.refusedEach(SOME, "holds 2 0 0 0" + said, bad, -1);
            LIMITS.refusedEach(SOME, "holds 2 2 3 1023" + said, bad, -1);
            LIMITS.refused(SOME, "holds 0 1 0 0" + said, -1);
            LIMITS.refused(SOME, "holds 1 2 0 0" + said, -1);
            LIMITS.all(LIMITS.run(SOME), "holds 0 0 0 0" + said, 11, "holds 1 1 3 1023" + said, 12, "holds 2 2 0 512" + said,
                13, "holds 4 0 3 1" + said, 14, "holds 4 0 3 1" + said, 15);
        }
        // Bits of FACTS 9 and 0 are as good as others for what he NEEDS.
        LIMITS.all(LIMITS.run("court 0 0", "point", "kase 0 0 1 1023", "holds 0 0 0 1023 false"), "asked 0 0 0 0 0", 1,
            "stand 0 0 1023 0 0", 3, "stand 0 0 511 0 0", 0, "stand 0 0 1022 0 0", 0);
    }

    private static void treatmentsThatCantBe() {
        LIMITS.sentence("OVERRULING (what 2), a DOUBT (3), an UNDOING (4; the POINT isn't looked at); NONE: no such ones");
        int[] cases = Limits.bad(-1, 5, 32);
        for (int what = 2; what <= 4; what++) {
            int[] points = what == 4 ? new int[0] : Limits.bad(-1, 4, 12);
            LIMITS.refusedEach(SOME, "treats " + what + " 4 0 3", new int[][] {Limits.bad(1, 5, 0, -1), cases, cases, points},
                -1);
            LIMITS.all(LIMITS.run(SOME), "treats " + what + " 4 0 0", 11, "treats " + what + " 1 0 3", 12);
        }
        Run run = LIMITS.run(SOME);
        int note = Limits.SOME_NOTES;
        for (int point : Limits.bad(-1, 4, 12)) {
            LIMITS.due(run, "treats 4 4 0 " + point, note);
            note++;
        }
        LIMITS.due(run, "asked 0 0 6 60 60", 1);
    }

    private static void laterThan() {
        LIMITS.sentence("LATER if its DAY is behind, or it is the same and its number is greater; NONE: isn't LATER");
        List<String> three = List.of("court 0 0", "point", "days 20", "kase 0 10 1 0", "kase 0 9 1 0", "kase 0 10 1 0",
            "kase 0 11 1 0");
        for (int what = 2; what <= 4; what++) {
            String treats = "treats " + what + " ";
            // A DAY ahead by one, the same DAY and a lesser number, the CASE itself.
            LIMITS.refused(three, treats + "1 0 0", -1);
            LIMITS.refused(three, treats + "0 2 0", -1);
            LIMITS.refused(three, treats + "0 3 0", -1);
            LIMITS.refused(three, treats + "0 0 0", -1);
            LIMITS.refused(three, treats + "3 3 0", -1);
            LIMITS.all(LIMITS.run(three), treats + "0 1 0", 0, treats + "2 0 0", 1, treats + "3 2 0", 2, treats + "3 1 0", 3);
        }
    }

    private static void statutesThatCantBe() {
        LIMITS.sentence("A STATUTE: its NOTE's number; NONE: no such POINT, DAY (any DAY)");
        for (String lays : new String[] {" true", " false"}) {
            LIMITS.refusedEach(SOME, "statute 0 0" + lays, new int[][] {Limits.bad(-1, 4, 12), Limits.bad(-1, 10000)}, -1);
            LIMITS.all(LIMITS.run(SOME), "statute 0 0" + lays, 11, "statute 3 9999" + lays, 12, "statute 3 61" + lays, 13);
        }
        LIMITS.all(LIMITS.run("court 0 0", "point", "statute 0 9999 true"), "stand 0 0 0 9998 0", 0, "stand 0 0 0 9999 0", 4);
        LIMITS.all(LIMITS.run("court 0 0", "point", "days 9999", "statute 0 0 true"), "stand 0 0 0 0 9999", 4,
            "stand 0 0 0 0 9998", 0);
    }

    private static void joiningsThatCantBe() {
        LIMITS.sentence("A JOINING: its NOTE's number; NONE: no such POINTS, both the same");
        int[] points = Limits.bad(-1, 4, 12);
        LIMITS.refusedEach(SOME, "join 0 3", new int[][] {points, points}, -1);
        for (int point : Limits.bad(-1, 0, 3, 4)) {
            LIMITS.refused(SOME, "join " + point + " " + point, -1);
        }
        LIMITS.all(LIMITS.run(SOME), "join 0 3", 11, "join 3 0", 12, "join 0 2", 13, "joined 3 60", 0);
        LIMITS.all(LIMITS.run(Limits.times(12, "point")), "join 11 10", 0, "joined 11 0", 10, "join 11 12", -1, "join 12 0",
            -1, "join 0 11", 1, "joined 10 0", 0);
    }

    private static void strikesThatCantBe() {
        LIMITS.sentence("A STRIKE: its NOTE's number; NONE: no such NOTE");
        for (int note : Limits.bad(-1, Limits.SOME_NOTES, 120)) {
            LIMITS.refused(SOME, "strike " + note, -1);
        }
        // The last NOTE, the first one, the STRIKE itself that was the last but one; a STRUCK one may be STRUCK again.
        LIMITS.all(LIMITS.run(SOME), "strike 10", 11, "strike 0", 12, "strike 12", 13, "strike 0", 14, "strike 15", -1);
        LIMITS.all(LIMITS.run("point"), "strike 0", -1, "statute 0 0 true", 0, "strike 1", -1, "strike 0", 1);
        Run run = LIMITS.run(FULL.subList(0, FULL.size() - 1));
        LIMITS.all(run, "count 4", 119, "strike 119", -1, "strike 118", 119, "strike 118", -1);
    }

    private static void mostNotes() {
        LIMITS.sentence("NOTES, at most 120, numbered from 0 on; NONE: or there are 120");
        List<String> ready = List.of("court 0 0", "point", "point", "kase 0 0 3 0", "kase 0 0 3 0");
        String[] calls = {"holds 0 2 0 0 false", "holds 1 0 1 1023 true", "treats 2 1 0 0", "treats 3 1 0 1", "treats 4 1 0 0",
            "statute 0 0 false", "statute 1 9999 true", "join 0 1", "strike 0"};
        for (String call : calls) {
            Run run = LIMITS.run(ready);
            LIMITS.due(run, "statute 0 0 true", 0);
            for (int note = 1; note < 120; note++) {
                LIMITS.due(run, call, note);
            }
            LIMITS.due(run, call, -1);
            LIMITS.due(run, "count 4", 120);
            for (String other : calls) {
                LIMITS.due(run, other, -1);
            }
            LIMITS.due(run, "count 4", 120);
        }
        for (String call : new String[] {"holds 0 0 0 0 false", "holds 2 2 11 1023 true", "treats 2 1 0 0", "treats 3 6 0 0",
            "treats 4 6 0 0", "statute 0 0 false", "statute 11 9999 true", "join 0 11", "strike 0", "strike 119",
            "strike 120"}) {
            LIMITS.refused(FULL, call, -1);
        }
    }

    private static void looking() {
        LIMITS.sentence("IndexOutOfBoundsException: no such CASE. NoSuchElementException: no such what.");
        for (int what : new int[] {0, 4}) {
            for (int kase : Limits.bad(-1, 5, 32)) {
                LIMITS.refused(SOME, "look " + kase + " " + what, "throws.IndexOutOfBoundsException");
            }
            LIMITS.refused(FULL, "look 32 " + what, "throws.IndexOutOfBoundsException");
        }
        for (int what : Limits.bad(-1, 5)) {
            LIMITS.refused(SOME, "look 0 " + what, "throws.NoSuchElementException");
            LIMITS.refused(SOME, "look 4 " + what, "throws.NoSuchElementException");
            LIMITS.refused(FULL, "look 31 " + what, "throws.NoSuchElementException");
            LIMITS.refused(SOME, "look 5 " + what, "throws.IndexOutOfBoundsException");
        }
        LIMITS.all(LIMITS.run(SOME), "look 0 0", 0, "look 0 4", 50, "look 4 0", 2, "look 4 1", 50, "look 4 2", 1, "look 4 3",
            1023, "look 4 4", 50);
        LIMITS.all(LIMITS.run(FULL), "look 31 0", 1, "look 31 1", 3000, "look 31 2", 2, "look 31 3", 1023, "look 31 4", 9000);
    }

    private static void counting() {
        LIMITS.sentence("0 TODAY, 1 COURTS, 2 POINTS, 3 CASES, 4 NOTES, 5 KNOTS, 6 doubts. NONE for another what.");
        for (List<String> history : List.of(NEW, SOME, FULL)) {
            for (int what : Limits.bad(-1, 7)) {
                LIMITS.refused(history, "count " + what, -1);
            }
        }
        List<String> most = new ArrayList<>(FULL);
        most.add("rules 400");
        Run run = LIMITS.run(most);
        LIMITS.all(run, "text binds not 1" + "+1".repeat(31) + ";doubts 9;", 2, "count 0", 9999, "count 1", 6, "count 2", 12,
            "count 3", 32, "count 4", 120, "count 5", 64, "count 6", 9, "text doubts 1;", 1, "count 5", 0, "count 6", 1);
    }
}
