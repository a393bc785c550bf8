import java.math.BigInteger;
import java.util.ArrayList;
import java.util.HashMap;
import java.util.HashSet;
import java.util.List;
import java.util.Map;
import java.util.Set;
import java.util.TreeSet;

/** ReportedCases word by word from the document, without a thought for time or room: what the program is held against. */
final class PlainCases {
    record Court(int rank, int land) {
    }

    record Kase(int number, int court, int day, int judges, int facts, int told) {
        boolean later(Kase o) {
            return day > o.day || day == o.day && number > o.number;
        }
    }

    /** x, y, z: as the NOTE's kind has them in the document's row. */
    record Note(int number, int kind, int told, int kase, int other, int point, int extra) {
    }

    int today = 0;
    final List<Court> courts = new ArrayList<>();
    int points = 0;
    final Set<Set<Integer>> opposed = new HashSet<>();
    final List<Kase> cases = new ArrayList<>();
    final List<Note> notes = new ArrayList<>();
    StringBuilder tape = new StringBuilder();
    PlainRules rules = new PlainRules("");
    PlainRules latest = rules;

    int feed(int a, int b, int c, int d, int e) {
        if (tape.length() + 20 > 400) {
            return -1;
        }
        for (int n : new int[] {a, b, c, d, e}) {
            for (int i = 3; i >= 0; i--) {
                tape.append((char) (n >>> 8 * i & 255));
            }
        }
        return tape.length();
    }

    int rules(int n) {
        if (n < 0 || n > tape.length()) {
            return -2;
        }
        latest = new PlainRules(tape.substring(0, n));
        tape = new StringBuilder();
        if (latest.kind != 0) {
            return -1;
        }
        rules = latest;
        return latest.lines;
    }

    int fault(int what) {
        return what == 0 ? latest.kind : what == 1 ? latest.place : -1;
    }

    static boolean in(long x, long from, long to) {
        return from <= x && x <= to;
    }

    boolean day(int d) {
        return in(d, 0, 9999);
    }

    boolean aPoint(int p) {
        return in(p, 0, points - 1);
    }

    boolean aCourt(int c) {
        return in(c, 0, courts.size() - 1);
    }

    boolean aCase(int c) {
        return in(c, 0, cases.size() - 1);
    }

    boolean facts(int f) {
        return in(f, 0, 1023);
    }

    int days(int n) {
        if (!day(n) || !in((long) today + n, 0, 9999)) {
            return -1;
        }
        return today += n;
    }

    int court(int rank, int land) {
        if (!in(rank, 0, 9) || !in(land, 0, 3) || courts.size() == 6) {
            return -1;
        }
        courts.add(new Court(rank, land));
        return courts.size() - 1;
    }

    int point() {
        return points == 12 ? -1 : points++;
    }

    boolean oppose(int a, int b, boolean on) {
        if (!aPoint(a) || !aPoint(b) || a == b) {
            return false;
        }
        return on ? opposed.add(Set.of(a, b)) : opposed.remove(Set.of(a, b));
    }

    int kase(int court, int day, int judges, int facts) {
        if (!aCourt(court) || !in(day, 0, today) || !in(judges, 1, 3) || !facts(facts) || cases.size() == 32) {
            return -1;
        }
        cases.add(new Kase(cases.size(), court, day, judges, facts, today));
        return cases.size() - 1;
    }

    private int note(int kind, int kase, int other, int point, int extra) {
        if (notes.size() == 120) {
            return -1;
        }
        notes.add(new Note(notes.size(), kind, today, kase, other, point, extra));
        return notes.size() - 1;
    }

    int holds(int kase, int judge, int point, int needs, boolean said) {
        if (!aCase(kase) || !in(judge, 0, cases.get(kase).judges - 1) || !aPoint(point) || !facts(needs)) {
            return -1;
        }
        return note(said ? 1 : 0, kase, judge, point, needs);
    }

    int treats(int what, int kase, int other, int point) {
        if (!in(what, 2, 4) || !aCase(kase) || !aCase(other) || !cases.get(kase).later(cases.get(other))
            || what < 4 && !aPoint(point)) {
            return -1;
        }
        return note(what, kase, other, point, 0);
    }

    int statute(int point, int day, boolean lays) {
        return aPoint(point) && day(day) ? note(lays ? 6 : 5, -1, -1, point, day) : -1;
    }

    int join(int a, int b) {
        return aPoint(a) && aPoint(b) && a != b ? note(7, -1, b, a, 0) : -1;
    }

    int strike(int n) {
        return in(n, 0, notes.size() - 1) ? note(8, -1, n, -1, 0) : -1;
    }

    /** As KNOWN on k, without one CASE. */
    final class Known {
        final int k;
        final List<Kase> seen = new ArrayList<>();
        final List<Note> counting = new ArrayList<>();

        Known(int k, int without) {
            this.k = k;
            for (Kase c : cases) {
                if (c.told <= k && c.number != without) {
                    seen.add(c);
                }
            }
            for (Note n : notes) {
                if (n.told <= k && !struck(n) && isOfSeen(n)) {
                    counting.add(n);
                }
            }
        }

        boolean struck(Note n) {
            return notes.stream().anyMatch(s -> s.kind == 8 && s.told <= k && s.other == n.number && !struck(s));
        }

        boolean isOfSeen(Note n) {
            return n.kind > 4 || seen.contains(cases.get(n.kase)) && (n.kind < 2 || seen.contains(cases.get(n.other)));
        }

        Set<Integer> row(int p) {
            Set<Integer> row = new TreeSet<>(Set.of(p));
            boolean grew = true;
            while (grew) {
                grew = false;
                for (Note n : counting) {
                    if (n.kind == 7 && (row.contains(n.point) || row.contains(n.other))) {
                        grew |= row.add(n.point);
                        grew |= row.add(n.other);
                    }
                }
            }
            return row;
        }

        int least(int p) {
            return row(p).iterator().next();
        }

        boolean one(int p, int q) {
            return row(p).contains(q);
        }

        boolean opposite(int p, int q) {
            if (one(p, q)) {
                return false;
            }
            for (int x : row(p)) {
                for (int y : row(q)) {
                    if (opposed.contains(Set.of(x, y))) {
                        return true;
                    }
                }
            }
            return false;
        }

        Set<Integer> all() {
            Set<Integer> all = new TreeSet<>();
            for (int p = 0; p < points; p++) {
                all.add(least(p));
            }
            return all;
        }

        World by(int d) {
            return new World(this, d, seen.stream().filter(c -> c.day <= d).toList());
        }

        final Map<List<Integer>, Boolean> blindBefore = new HashMap<>();

        boolean blind(Kase c, int p) {
            List<Integer> key = List.of(c.number, least(p));
            Boolean known = blindBefore.get(key);
            if (known == null) {
                known = missed(c, p, true) != 0;
                blindBefore.put(key, known);
            }
            return known;
        }

        /** The bits of the CASES that make it BLIND for the POINT; with laws, bit 40 for a POINT that was LAID. */
        long missed(Kase c, int p, boolean laws) {
            World w = new World(this, c.day, seen.stream().filter(c::later).toList());
            if (!w.held(c, p, c.facts)) {
                return 0;
            }
            long bits = 0;
            for (int q : all()) {
                if (opposite(p, q)) {
                    if (laws && w.laid(q)) {
                        bits |= 1L << 40;
                    }
                    for (Kase x : w.there) {
                        if (w.good(x, q, c.facts) && w.bind(x, q, c.court, c.facts)) {
                            bits |= 1L << x.number;
                        }
                    }
                }
            }
            return bits;
        }
    }

    /** As of a DAY, of some CASES. */
    final class World {
        final Known known;
        final int d;
        final List<Kase> there;

        World(Known known, int d, List<Kase> there) {
            this.known = known;
            this.d = d;
            this.there = there;
        }

        /** The CASES that are there, LATER than c, not UNDONE, with such a NOTE on c. */
        List<Kase> treating(int kind, Kase c, int p) {
            List<Kase> found = new ArrayList<>();
            for (Kase x : there) {
                boolean treats = known.counting.stream().anyMatch(n -> n.kind == kind && n.kase == x.number
                    && n.other == c.number && (kind == 4 || known.one(n.point, p)));
                if (treats && x.later(c) && !undone(x)) {
                    found.add(x);
                }
            }
            return found;
        }

        final Map<Kase, Boolean> undoneBefore = new HashMap<>();

        boolean undone(Kase c) {
            Boolean before = undoneBefore.get(c);
            if (before == null) {
                before = !treating(4, c, -1).isEmpty();
                undoneBefore.put(c, before);
            }
            return before;
        }

        int votes(Kase c, int p, int f) {
            Set<Integer> judges = new HashSet<>();
            for (Note n : known.counting) {
                if (n.kind == 0 && n.kase == c.number && known.one(n.point, p) && (n.extra & f) == n.extra) {
                    judges.add(n.other);
                }
            }
            return judges.size();
        }

        boolean held(Kase c, int p, int f) {
            return votes(c, p, f) > c.judges / 2.0;
        }

        boolean said(Kase c, int p, int f) {
            return known.counting.stream().anyMatch(
                n -> n.kind == 1 && n.kase == c.number && known.one(n.point, p) && (n.extra & f) == n.extra);
        }

        boolean rule(PlainRules.Tree tree, Kase c, int court, int votes, int age, int doubted) {
            Map<String, Long> names = new HashMap<>();
            Court mine = courts.get(c.court);
            Court other = courts.get(court);
            names.put("rank", (long) mine.rank);
            names.put("own", (long) other.rank);
            names.put("same", c.court == court ? 1L : 0L);
            names.put("land", mine.land == other.land ? 1L : 0L);
            names.put("seats", (long) c.judges);
            names.put("votes", (long) votes);
            names.put("age", (long) age);
            names.put("doubted", (long) doubted);
            BigInteger v = tree.value(names);
            return v != null && v.signum() != 0;
        }

        boolean overruled(Kase c, int p) {
            return treating(2, c, p).stream().anyMatch(
                x -> rule(rules.overrules, x, c.court, votes(x, p, x.facts), x.day - c.day, doubts(c, p)));
        }

        int doubts(Kase c, int p) {
            return treating(3, c, p).size();
        }

        boolean doubted(Kase c, int p) {
            return doubts(c, p) >= rules.doubts;
        }

        boolean laid(int p) {
            Note last = null;
            for (Note n : known.counting) {
                if ((n.kind == 5 || n.kind == 6) && n.extra <= d && known.one(n.point, p)
                    && (last == null || n.extra >= last.extra)) {
                    last = n;
                }
            }
            return last != null && last.kind == 6;
        }

        boolean taken(Kase c, int p) {
            return known.counting.stream().anyMatch(
                n -> n.kind == 5 && n.extra <= d && c.day <= n.extra && known.one(n.point, p));
        }

        boolean good(Kase c, int p, int f) {
            return !undone(c) && held(c, p, f) && !overruled(c, p) && !taken(c, p) && !known.blind(c, p);
        }

        boolean bind(Kase c, int p, int court, int f) {
            return rule(rules.binds, c, court, votes(c, p, f), d - c.day, doubts(c, p));
        }

        int stand(int p, int court, int f) {
            if (laid(p)) {
                return 4;
            }
            List<Kase> binding = binding(p, court, f);
            if (!binding.isEmpty()) {
                return binding.stream().allMatch(c -> doubted(c, p)) ? 2 : 3;
            }
            return persuading(p, f).isEmpty() ? 0 : 1;
        }

        List<Kase> binding(int p, int court, int f) {
            return there.stream().filter(c -> good(c, p, f) && bind(c, p, court, f)).toList();
        }

        List<Kase> persuading(int p, int f) {
            return there.stream().filter(c -> !undone(c) && (good(c, p, f)
                || (votes(c, p, f) > 0 || said(c, p, f)) && !overruled(c, p) && !taken(c, p))).toList();
        }

        int lead(int p, int court, int f) {
            int stand = stand(p, court, f);
            List<Kase> from = stand == 3 ? binding(p, court, f).stream().filter(c -> !doubted(c, p)).toList()
                : stand == 2 ? binding(p, court, f) : stand == 1 ? persuading(p, f) : List.of();
            Kase best = null;
            for (Kase c : from) {
                int more = best == null ? 1 : courts.get(c.court).rank - courts.get(best.court).rank;
                if (more > 0 || more == 0 && c.later(best)) {
                    best = c;
                }
            }
            return best == null ? -1 : best.number;
        }
    }

    private World world(int day, int known) {
        return new Known(known, -1).by(day);
    }

    int stand(int p, int court, int f, int d, int k) {
        return aPoint(p) && aCourt(court) && facts(f) && day(d) && day(k) ? world(d, k).stand(p, court, f) : -1;
    }

    int lead(int p, int court, int f, int d, int k) {
        return aPoint(p) && aCourt(court) && facts(f) && day(d) && day(k) ? world(d, k).lead(p, court, f) : -1;
    }

    int asked(int kase, int p, int what, int d, int k) {
        if (!aCase(kase) || !aPoint(p) || !in(what, 0, 6) || !day(d) || !day(k)) {
            return -1;
        }
        World w = world(d, k);
        Kase c = cases.get(kase);
        if (!w.there.contains(c)) {
            return -1;
        }
        if (what == 0) {
            return w.votes(c, p, c.facts);
        }
        if (what == 3) {
            return w.doubts(c, p);
        }
        boolean so = switch (what) {
            case 1 -> w.held(c, p, c.facts);
            case 2 -> w.overruled(c, p);
            case 4 -> w.taken(c, p);
            case 5 -> w.known.blind(c, p);
            default -> w.undone(c);
        };
        return so ? 1 : 0;
    }

    int binds(int kase, int p, int court, int f, int d, int k) {
        if (!aCase(kase) || !aPoint(p) || !aCourt(court) || !facts(f) || !day(d) || !day(k)) {
            return -1;
        }
        World w = world(d, k);
        Kase c = cases.get(kase);
        return !w.there.contains(c) ? -1 : w.bind(c, p, court, f) ? 1 : 0;
    }

    int quarrel(int court, int f, int d, int k) {
        if (!aCourt(court) || !facts(f) || !day(d) || !day(k)) {
            return -1;
        }
        World w = world(d, k);
        List<Integer> firm = w.known.all().stream().filter(p -> w.stand(p, court, f) >= 3).toList();
        int[] fight = new int[12];
        for (int p : firm) {
            for (int q : firm) {
                fight[p] |= w.known.opposite(p, q) ? 1 << q : 0;
            }
        }
        for (int size = 0; size <= 12; size++) {
            for (int bits = 0; bits < 4096; bits++) {
                int given = bits;
                if (Integer.bitCount(bits) == size
                    && firm.stream().allMatch(p -> (given >> p & 1) != 0 || (fight[p] & ~given) == 0)) {
                    return bits;
                }
            }
        }
        return -1;
    }

    int forgotten(int kase, int k) {
        if (!aCase(kase) || !day(k)) {
            return 0;
        }
        Known known = new Known(k, -1);
        Kase c = cases.get(kase);
        long bits = 0;
        if (known.seen.contains(c)) {
            for (int p : known.all()) {
                bits |= known.missed(c, p, false);
            }
        }
        return (int) bits;
    }

    int apart(int a, int b, int d, int k) {
        if (!aPoint(a) || !aPoint(b) || !day(d) || !day(k)) {
            return -1;
        }
        World w = world(d, k);
        List<Kase> as = w.there.stream().filter(c -> w.held(c, a, c.facts)).toList();
        List<Kase> bs = w.there.stream().filter(c -> w.held(c, b, c.facts)).toList();
        for (int size = 0; size <= 10; size++) {
            for (int bits = 0; bits < 1024; bits++) {
                int asked = bits;
                if (Integer.bitCount(bits) == size
                    && as.stream().allMatch(x -> bs.stream().allMatch(y -> (x.facts & asked) != (y.facts & asked)))) {
                    return bits;
                }
            }
        }
        return -1;
    }

    int hangs(int kase, int court, int f, int d, int k) {
        if (!aCase(kase) || !aCourt(court) || !facts(f) || !day(d) || !day(k)) {
            return -1;
        }
        World with = world(d, k);
        World without = new Known(k, kase).by(d);
        int bits = 0;
        for (int p : with.known.all()) {
            bits |= with.stand(p, court, f) != without.stand(p, court, f) ? 1 << p : 0;
        }
        return bits;
    }

    int joined(int p, int k) {
        return aPoint(p) && day(k) ? new Known(k, -1).least(p) : -1;
    }

    /** -100: IndexOutOfBoundsException, -200: NoSuchElementException. */
    int look(int kase, int what) {
        if (!aCase(kase)) {
            return -100;
        }
        Kase c = cases.get(kase);
        return in(what, 0, 4) ? new int[] {c.court, c.day, c.judges, c.facts, c.told}[what] : -200;
    }

    int count(int what) {
        return in(what, 0, 6)
            ? new int[] {today, courts.size(), points, cases.size(), notes.size(), rules.knots, rules.doubts}[what] : -1;
    }
}
