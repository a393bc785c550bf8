import java.util.Arrays;
import java.util.NoSuchElementException;

public final class ReportedCases {
    public static final int NONE = -1;

    private static final int LAST_DAY = 9999;
    private static final int MOST_COURTS = 6;
    private static final int MOST_RANK = 9;
    private static final int MOST_LAND = 3;
    private static final int MOST_POINTS = 12;
    private static final int MOST_CASES = 32;
    private static final int MOST_JUDGES = 3;
    private static final int MOST_NOTES = 120;
    private static final int MOST_BYTES = 400;
    private static final int BYTES_OF_A_FEED = 20;
    private static final int FACT_BITS = 10;
    private static final int ALL_FACTS = (1 << FACT_BITS) - 1;
    // Sets of FACTS stand as bits of words, 32 in each: FACTS 0 .. 4 are a place in the word, the others are the word.
    private static final int FACTS_IN_WORD = 5;
    private static final int WORDS = 1 << FACT_BITS - FACTS_IN_WORD;
    private static final int[] SETS_WITHOUT = {0x55555555, 0x33333333, 0x0F0F0F0F, 0x00FF00FF, 0x0000FFFF};

    private static final int HOLDING = 0;
    private static final int SAYING = 1;
    private static final int OVERRULING = 2;
    private static final int DOUBT = 3;
    private static final int UNDOING = 4;
    private static final int STRIKING_STATUTE = 5;
    private static final int LAYING_STATUTE = 6;
    private static final int JOINING = 7;
    private static final int STRIKE = 8;

    private static final int STANDS_LAID = 4;
    private static final int STANDS_BINDING = 3;
    private static final int STANDS_DOUBTED = 2;
    private static final int STANDS_PERSUASIVE = 1;
    private static final int STANDS_NOT = 0;

    private static final int MOST_KNOTS = 64;
    private static final int MOST_OPEN = 8;
    private static final int MOST_NUMBER = 9999;
    private static final int MOST_DOUBTS = 9;
    private static final int DOUBTS_WITHOUT_LINE = 2;
    private static final long MOST_VALUE = 1000000000000L;
    private static final long ERROR = MOST_VALUE + 1;

    private static final int FAULT_TOKEN = 1;
    private static final int FAULT_TOO_MUCH = 2;
    private static final int FAULT_TOLD_ALREADY = 3;

    // Tokens of the RULES. Words from NOT to DOUBTS stand in a row, and so do NAMES from RANK to DOUBTED.
    private static final int END = 1;
    private static final int NO_TOKEN = 2;
    private static final int NUMBER = 3;
    private static final int SEMICOLON = 4;
    private static final int OPEN = 5;
    private static final int CLOSE = 6;
    private static final int LESS = 7;
    private static final int LESS_OR_EQUAL = 8;
    private static final int EQUAL = 9;
    private static final int UNEQUAL = 10;
    private static final int MORE_OR_EQUAL = 11;
    private static final int MORE = 12;
    private static final int PLUS = 13;
    private static final int MINUS = 14;
    private static final int TIMES = 15;
    private static final int OVER = 16;
    private static final int NOT = 17;
    private static final int AND = 18;
    private static final int OR = 19;
    private static final int RANK = 20;
    private static final int OWN = 21;
    private static final int SAME = 22;
    private static final int LAND = 23;
    private static final int SEATS = 24;
    private static final int VOTES = 25;
    private static final int AGE = 26;
    private static final int DOUBTED = 27;
    private static final int BINDS = 28;
    private static final int OVERRULES = 29;
    private static final int DOUBTS = 30;
    private static final int NAMES = DOUBTED - RANK + 1;

    private final byte[] tape;
    private int taped;
    private int today;
    private final Courts courts;
    private final Points points;
    private final Cases cases;
    private final Notes notes;
    private final RuleReader reader;
    private RuleSet inForce;
    private RuleSet spare;
    private final World world;
    private final int[] stands;
    private final int[] alike;

    public ReportedCases() {
        tape = new byte[MOST_BYTES];
        courts = new Courts();
        points = new Points();
        cases = new Cases();
        notes = new Notes();
        inForce = new RuleSet();
        spare = new RuleSet();
        reader = new RuleReader(spare);
        world = new World(courts, cases, new Known(points, cases, notes), inForce);
        stands = new int[MOST_POINTS];
        alike = new int[WORDS];
    }

    public int feed(int a, int b, int c, int d, int e) {
        if (taped + BYTES_OF_A_FEED > MOST_BYTES) {
            return NONE;
        }
        tapeFour(a);
        tapeFour(b);
        tapeFour(c);
        tapeFour(d);
        tapeFour(e);
        return taped;
    }

    public int rules(int n) {
        if (n < 0 || n > taped) {
            return -2;
        }
        taped = 0;
        reader.read(tape, n, spare);
        if (reader.faultKind != 0) {
            return NONE;
        }
        RuleSet before = inForce;
        inForce = spare;
        spare = before;
        return inForce.lines;
    }

    public int fault(int what) {
        switch (what) {
            case 0:
                return reader.faultKind;
            case 1:
                return reader.faultPlace;
            default:
                return NONE;
        }
    }

    public int days(int n) {
        if (!isDay(n) || !isDay(today + n)) {
            return NONE;
        }
        today += n;
        return today;
    }

    public int court(int rank, int land) {
        if (rank < 0 || rank > MOST_RANK || land < 0 || land > MOST_LAND) {
            return NONE;
        }
        return courts.add(rank, land);
    }

    public int point() {
        if (points.size >= MOST_POINTS) {
            return NONE;
        }
        points.size++;
        return points.size - 1;
    }

    public boolean oppose(int a, int b, boolean on) {
        if (!isPoint(a) || !isPoint(b) || a == b || points.areOpposed(a, b) == on) {
            return false;
        }
        points.turnOpposed(a, b);
        return true;
    }

    public int kase(int court, int day, int judges, int facts) {
        if (!isCourt(court) || day < 0 || day > today || judges < 1 || judges > MOST_JUDGES || !areFacts(facts)) {
            return NONE;
        }
        return cases.add(court, day, judges, facts, today);
    }

    public int holds(int kase, int judge, int point, int needs, boolean said) {
        if (!isCase(kase) || !isPoint(point) || !areFacts(needs)) {
            return NONE;
        }
        if (judge < 0 || judge >= cases.judges[kase]) {
            return NONE;
        }
        return notes.add(said ? SAYING : HOLDING, today, kase, judge, point, needs);
    }

    public int treats(int what, int kase, int other, int point) {
        if (what < OVERRULING || what > UNDOING || !isCase(kase) || !isCase(other)) {
            return NONE;
        }
        if (!cases.isLater(kase, other) || what != UNDOING && !isPoint(point)) {
            return NONE;
        }
        return notes.add(what, today, kase, other, what == UNDOING ? NONE : point, 0);
    }

    public int statute(int point, int day, boolean lays) {
        if (!isPoint(point) || !isDay(day)) {
            return NONE;
        }
        return notes.add(lays ? LAYING_STATUTE : STRIKING_STATUTE, today, NONE, NONE, point, day);
    }

    public int join(int a, int b) {
        if (!isPoint(a) || !isPoint(b) || a == b) {
            return NONE;
        }
        return notes.add(JOINING, today, NONE, b, a, 0);
    }

    public int strike(int note) {
        if (note < 0 || note >= notes.size) {
            return NONE;
        }
        return notes.add(STRIKE, today, NONE, note, NONE, 0);
    }

    public int stand(int point, int court, int facts, int day, int known) {
        if (!isPoint(point) || !isAskable(court, facts, day, known)) {
            return NONE;
        }
        world.see(inForce, known, NONE);
        world.goToDay(day);
        return world.standOf(world.known.least[point], court, facts);
    }

    public int lead(int point, int court, int facts, int day, int known) {
        if (!isPoint(point) || !isAskable(court, facts, day, known)) {
            return NONE;
        }
        world.see(inForce, known, NONE);
        world.goToDay(day);
        return world.leaderOf(world.known.least[point], court, facts);
    }

    public int asked(int kase, int point, int what, int day, int known) {
        if (!isCase(kase) || !isPoint(point) || what < 0 || what > 6 || !isDay(day) || !isDay(known)) {
            return NONE;
        }
        world.see(inForce, known, NONE);
        world.goToDay(day);
        if (!world.isThere(kase)) {
            return NONE;
        }
        return tellOf(kase, world.known.least[point], what);
    }

    public int binds(int kase, int point, int court, int facts, int day, int known) {
        if (!isCase(kase) || !isPoint(point) || !isAskable(court, facts, day, known)) {
            return NONE;
        }
        world.see(inForce, known, NONE);
        world.goToDay(day);
        if (!world.isThere(kase)) {
            return NONE;
        }
        return asNumber(world.doesBind(kase, world.known.least[point], court, facts));
    }

    public int quarrel(int court, int facts, int day, int known) {
        if (!isAskable(court, facts, day, known)) {
            return NONE;
        }
        world.see(inForce, known, NONE);
        world.goToDay(day);
        int standing = 0;
        for (int point = 0; point < points.size; point++) {
            if (world.known.least[point] == point && world.standOf(point, court, facts) >= STANDS_BINDING) {
                standing |= 1 << point;
            }
        }
        return fewestToGiveUp(standing);
    }

    public int forgotten(int kase, int known) {
        if (!isCase(kase) || !isDay(known)) {
            return 0;
        }
        world.see(inForce, known, NONE);
        return world.known.sees(kase) ? world.missed[kase] : 0;
    }

    public int apart(int a, int b, int day, int known) {
        if (!isPoint(a) || !isPoint(b) || !isDay(day) || !isDay(known)) {
            return NONE;
        }
        world.see(inForce, known, NONE);
        world.goToDay(day);
        markDifferences(world.known.least[a], world.known.least[b]);
        return fewestThatTell();
    }

    public int hangs(int kase, int court, int facts, int day, int known) {
        if (!isCase(kase) || !isAskable(court, facts, day, known)) {
            return NONE;
        }
        world.see(inForce, known, NONE);
        world.goToDay(day);
        for (int point = 0; point < points.size; point++) {
            stands[point] = world.known.least[point] == point ? world.standOf(point, court, facts) : STANDS_NOT;
        }
        world.see(inForce, known, kase);
        world.goToDay(day);
        int changed = 0;
        for (int point = 0; point < points.size; point++) {
            if (world.known.least[point] == point && world.standOf(point, court, facts) != stands[point]) {
                changed |= 1 << point;
            }
        }
        return changed;
    }

    public int joined(int point, int known) {
        if (!isPoint(point) || !isDay(known)) {
            return NONE;
        }
        world.known.see(known, NONE);
        return world.known.least[point];
    }

    public int look(int kase, int what) throws IndexOutOfBoundsException, NoSuchElementException {
        if (!isCase(kase)) {
            throw new IndexOutOfBoundsException("no such CASE");
        }
        switch (what) {
            case 0:
                return cases.courts[kase];
            case 1:
                return cases.days[kase];
            case 2:
                return cases.judges[kase];
            case 3:
                return cases.facts[kase];
            case 4:
                return cases.told[kase];
            default:
                throw new NoSuchElementException("no such what");
        }
    }

    public int count(int what) {
        switch (what) {
            case 0:
                return today;
            case 1:
                return courts.size;
            case 2:
                return points.size;
            case 3:
                return cases.size;
            case 4:
                return notes.size;
            case 5:
                return inForce.knots;
            case 6:
                return inForce.doubts;
            default:
                return NONE;
        }
    }

    private void tapeFour(int number) {
        for (int shift = 24; shift >= 0 && taped < MOST_BYTES; shift -= 8) {
            tape[taped] = (byte) (number >> shift);
            taped++;
        }
    }

    private static boolean isDay(int day) {
        return day >= 0 && day <= LAST_DAY;
    }

    private static boolean areFacts(int facts) {
        return facts >= 0 && facts <= ALL_FACTS;
    }

    private boolean isCourt(int court) {
        return court >= 0 && court < courts.size;
    }

    private boolean isPoint(int point) {
        return point >= 0 && point < points.size;
    }

    private boolean isCase(int kase) {
        return kase >= 0 && kase < cases.size;
    }

    private boolean isAskable(int court, int facts, int day, int known) {
        return isCourt(court) && areFacts(facts) && isDay(day) && isDay(known);
    }

    private static int asNumber(boolean truth) {
        return truth ? 1 : 0;
    }

    private static boolean has(int bits, int number) {
        return (bits >>> number & 1) != 0;
    }

    private int tellOf(int kase, int point, int what) {
        int facts = cases.facts[kase];
        switch (what) {
            case 0:
                return world.votesFor(kase, point, facts);
            case 1:
                return asNumber(world.isHeld(kase, point, facts));
            case 2:
                return asNumber(world.isOverruled(kase, point));
            case 3:
                return world.doubtsOf(kase, point);
            case 4:
                return asNumber(world.isTaken(kase, point));
            case 5:
                return asNumber(has(world.blind[kase], point));
            default:
                return asNumber(has(world.undone, kase));
        }
    }

    private int fewestToGiveUp(int standing) {
        int best = standing;
        int fewest = Integer.bitCount(standing);
        int given = 0;
        for (int i = 0; i < 1 << points.size; i++) {
            if (Integer.bitCount(given) < fewest && areAtPeace(standing & ~given)) {
                best = given;
                fewest = Integer.bitCount(given);
            }
            // The next greater set of those that stand; behind the last one it is the empty one again.
            given = given - standing & standing;
            if (given == 0) {
                break;
            }
        }
        return best;
    }

    private boolean areAtPeace(int bits) {
        for (int point = 0; point < points.size; point++) {
            if (has(bits, point) && (world.known.against[point] & bits) != 0) {
                return false;
            }
        }
        return true;
    }

    // A bit of alike is set for each set of FACTS that holds all in which some two CASES differ:
    // the other FACTS can't tell these two apart.
    private void markDifferences(int a, int b) {
        Arrays.fill(alike, 0);
        for (int one = 0; one < cases.size; one++) {
            if (!world.isThere(one) || !world.isHeld(one, a, cases.facts[one])) {
                continue;
            }
            for (int other = 0; other < cases.size; other++) {
                if (world.isThere(other) && world.isHeld(other, b, cases.facts[other])) {
                    mark(cases.facts[one] ^ cases.facts[other]);
                }
            }
        }
        spreadMarks();
    }

    private void spreadMarks() {
        for (int word = 0; word < WORDS; word++) {
            for (int fact = 0; fact < FACTS_IN_WORD; fact++) {
                alike[word] |= (alike[word] & SETS_WITHOUT[fact]) << (1 << fact);
            }
        }
        for (int fact = 0; fact < FACT_BITS - FACTS_IN_WORD; fact++) {
            for (int word = 0; word < WORDS; word++) {
                if (has(word, fact)) {
                    alike[word] |= alike[word ^ 1 << fact];
                }
            }
        }
    }

    private void mark(int facts) {
        alike[facts >> FACTS_IN_WORD] |= 1 << (facts & 31);
    }

    private boolean isMarked(int facts) {
        return has(alike[facts >> FACTS_IN_WORD], facts & 31);
    }

    private int fewestThatTell() {
        if (isMarked(0)) {
            return NONE;
        }
        int best = ALL_FACTS;
        int fewest = FACT_BITS;
        for (int facts = 0; facts < ALL_FACTS; facts++) {
            if (Integer.bitCount(facts) < fewest && !isMarked(ALL_FACTS & ~facts)) {
                best = facts;
                fewest = Integer.bitCount(facts);
            }
        }
        return best;
    }

    private static final class Courts {
        int size;
        final int[] ranks = new int[MOST_COURTS];
        final int[] lands = new int[MOST_COURTS];

        int add(int rank, int land) {
            if (size >= MOST_COURTS) {
                return NONE;
            }
            ranks[size] = rank;
            lands[size] = land;
            size++;
            return size - 1;
        }
    }

    private static final class Points {
        int size;
        final int[] opposed = new int[MOST_POINTS];

        boolean areOpposed(int a, int b) {
            return has(opposed[a], b);
        }

        void turnOpposed(int a, int b) {
            opposed[a] ^= 1 << b;
            opposed[b] ^= 1 << a;
        }
    }

    private static final class Cases {
        int size;
        final int[] courts = new int[MOST_CASES];
        final int[] days = new int[MOST_CASES];
        final int[] judges = new int[MOST_CASES];
        final int[] facts = new int[MOST_CASES];
        final int[] told = new int[MOST_CASES];
        // The numbers of the CASES, each behind all that it is LATER than.
        final int[] order = new int[MOST_CASES];

        int add(int court, int day, int bench, int bits, int today) {
            if (size >= MOST_CASES) {
                return NONE;
            }
            courts[size] = court;
            days[size] = day;
            judges[size] = bench;
            facts[size] = bits;
            told[size] = today;
            int place = size;
            while (place > 0 && days[order[place - 1]] > day) {
                order[place] = order[place - 1];
                place--;
            }
            order[place] = size;
            size++;
            return size - 1;
        }

        boolean isLater(int one, int other) {
            return days[one] > days[other] || days[one] == days[other] && one > other;
        }
    }

    private static final class Notes {
        int size;
        final int[] kinds = new int[MOST_NOTES];
        final int[] told = new int[MOST_NOTES];
        final int[] kases = new int[MOST_NOTES];
        // The JUDGE of a HOLDING or SAYING, the CASE that is treated, the other POINT of a JOINING, the NOTE that is STRUCK.
        final int[] others = new int[MOST_NOTES];
        final int[] points = new int[MOST_NOTES];
        // The NEEDS of a HOLDING or SAYING, the DAY of a STATUTE.
        final int[] extras = new int[MOST_NOTES];

        int add(int kind, int today, int kase, int other, int point, int extra) {
            if (size >= MOST_NOTES) {
                return NONE;
            }
            kinds[size] = kind;
            told[size] = today;
            kases[size] = kase;
            others[size] = other;
            points[size] = point;
            extras[size] = extra;
            size++;
            return size - 1;
        }
    }

    /** One E of the RULES, its KNOTS behind what they work on: a number as it is, any other as its token below 0. */
    private static final class Formula {
        boolean isTold;
        private int length;
        private final int[] knots = new int[MOST_KNOTS];

        void clear() {
            isTold = false;
            length = 0;
        }

        void add(int knot) {
            if (length < MOST_KNOTS) {
                knots[length] = knot;
                length++;
            }
        }

        /** The stack is the caller's, so that one serves all: it has room for every KNOT. */
        boolean isTrue(long[] names, long[] stack) {
            if (!isTold) {
                return names[LAND - RANK] != 0 && (names[0] > names[OWN - RANK] || names[SAME - RANK] != 0);
            }
            int top = 0;
            for (int i = 0; i < length && top < stack.length; i++) {
                int token = -knots[i];
                if (token <= 0 || token >= RANK && token <= DOUBTED) {
                    stack[top] = token <= 0 ? -token : names[token - RANK];
                    top++;
                } else if (token == NOT && top >= 1) {
                    stack[top - 1] = stack[top - 1] == 0 ? 1 : 0;
                } else if (top >= 2) {
                    top--;
                    long value = work(token, stack[top - 1], stack[top]);
                    if (value > MOST_VALUE || value < -MOST_VALUE) {
                        return false;
                    }
                    stack[top - 1] = value;
                }
            }
            return top == 1 && stack[0] != 0;
        }

        private static long work(int sign, long a, long b) {
            switch (sign) {
                case OR:
                    return a != 0 || b != 0 ? 1 : 0;
                case AND:
                    return a != 0 && b != 0 ? 1 : 0;
                case LESS:
                    return a < b ? 1 : 0;
                case LESS_OR_EQUAL:
                    return a <= b ? 1 : 0;
                case EQUAL:
                    return a == b ? 1 : 0;
                case UNEQUAL:
                    return a != b ? 1 : 0;
                case MORE_OR_EQUAL:
                    return a >= b ? 1 : 0;
                case MORE:
                    return a > b ? 1 : 0;
                case PLUS:
                    return a + b;
                case MINUS:
                    return a - b;
                case TIMES:
                    // A product of two VALUES can go beyond a long, so its size is asked first.
                    return a != 0 && (b < 0 ? -b : b) > MOST_VALUE / (a < 0 ? -a : a) ? ERROR : a * b;
                case OVER:
                    return b == 0 ? ERROR : a / b;
                default:
                    return ERROR;
            }
        }
    }

    private static final class RuleSet {
        int lines;
        int knots;
        int doubts = DOUBTS_WITHOUT_LINE;
        boolean doubtsTold;
        final Formula binding = new Formula();
        final Formula overruling = new Formula();

        void clear() {
            lines = 0;
            knots = 0;
            doubts = DOUBTS_WITHOUT_LINE;
            doubtsTold = false;
            binding.clear();
            overruling.clear();
        }
    }

    /** The tokens of a text, one after the other. */
    private static final class Tokens {
        private byte[] text = new byte[0];
        private int length;
        private int next;
        int token;
        int place;
        int number;

        void start(byte[] bytes, int used) {
            text = bytes;
            length = Math.min(used, bytes.length);
            next = 0;
            advance();
        }

        void advance() {
            while (next < length && (text[next] == 10 || text[next] == 32)) {
                next++;
            }
            place = next;
            if (next >= length) {
                token = END;
            } else if (text[next] >= 'a' && text[next] <= 'z') {
                takeWord();
            } else if (text[next] >= '0' && text[next] <= '9') {
                takeNumber();
            } else {
                takeSign();
            }
        }

        private void takeWord() {
            while (next < length && text[next] >= 'a' && text[next] <= 'z') {
                next++;
            }
            token = NO_TOKEN;
            for (int word = NOT; word <= DOUBTS; word++) {
                if (isSpelt(wordOf(word))) {
                    token = word;
                }
            }
        }

        private boolean isSpelt(String word) {
            if (word.length() != next - place) {
                return false;
            }
            for (int i = 0; i < word.length(); i++) {
                if (text[place + i] != word.charAt(i)) {
                    return false;
                }
            }
            return true;
        }

        private void takeNumber() {
            number = 0;
            while (next < length && text[next] >= '0' && text[next] <= '9') {
                // One digit beyond the greatest number is enough to know that it is too great.
                if (number <= MOST_NUMBER) {
                    number = number * 10 + (text[next] - '0');
                }
                next++;
            }
            token = NUMBER;
        }

        private void takeSign() {
            int sign = text[next];
            next++;
            token = signOf(sign);
            int behind = next < length ? text[next] : NONE;
            if (sign == '<' && behind == '=') {
                token = LESS_OR_EQUAL;
                next++;
            } else if (sign == '<' && behind == '>') {
                token = UNEQUAL;
                next++;
            } else if (sign == '>' && behind == '=') {
                token = MORE_OR_EQUAL;
                next++;
            }
        }

        private static int signOf(int sign) {
            switch (sign) {
                case ';':
                    return SEMICOLON;
                case '(':
                    return OPEN;
                case ')':
                    return CLOSE;
                case '<':
                    return LESS;
                case '=':
                    return EQUAL;
                case '>':
                    return MORE;
                case '+':
                    return PLUS;
                case '-':
                    return MINUS;
                case '*':
                    return TIMES;
                case '/':
                    return OVER;
                default:
                    return NO_TOKEN;
            }
        }

        private static String wordOf(int token) {
            switch (token) {
                case NOT:
                    return "not";
                case AND:
                    return "and";
                case OR:
                    return "or";
                case RANK:
                    return "rank";
                case OWN:
                    return "own";
                case SAME:
                    return "same";
                case LAND:
                    return "land";
                case SEATS:
                    return "seats";
                case VOTES:
                    return "votes";
                case AGE:
                    return "age";
                case DOUBTED:
                    return "doubted";
                case BINDS:
                    return "binds";
                case OVERRULES:
                    return "overrules";
                case DOUBTS:
                    return "doubts";
                default:
                    return "";
            }
        }
    }

    /** Reads a text into a RuleSet, up to its first FAULT. */
    private static final class RuleReader {
        int faultKind;
        int faultPlace = NONE;
        private final Tokens tokens = new Tokens();
        private RuleSet into;
        // Signs that wait for what stands behind them, and the '(' round them.
        private final int[] waiting = new int[MOST_KNOTS + MOST_OPEN];
        private int top;
        private int open;

        RuleReader(RuleSet target) {
            into = target;
        }

        void read(byte[] text, int length, RuleSet target) {
            faultKind = 0;
            faultPlace = NONE;
            into = target;
            into.clear();
            tokens.start(text, length);
            for (int i = 0; i <= length && faultKind == 0 && tokens.token != END; i++) {
                readLine(length);
            }
        }

        private void readLine(int length) {
            int word = tokens.token;
            if (word != BINDS && word != OVERRULES && word != DOUBTS) {
                fail(FAULT_TOKEN);
                return;
            }
            Formula formula = word == BINDS ? into.binding : into.overruling;
            if (word == DOUBTS ? into.doubtsTold : formula.isTold) {
                fail(FAULT_TOLD_ALREADY);
                return;
            }
            into.lines++;
            tokens.advance();
            if (word == DOUBTS) {
                readDoubts();
            } else {
                readFormula(formula, length);
            }
            if (faultKind == 0 && tokens.token != SEMICOLON) {
                fail(FAULT_TOKEN);
            }
            tokens.advance();
        }

        private void readDoubts() {
            if (tokens.token != NUMBER) {
                fail(FAULT_TOKEN);
            } else if (tokens.number < 1 || tokens.number > MOST_DOUBTS) {
                fail(FAULT_TOO_MUCH);
            } else {
                into.doubtsTold = true;
                into.doubts = tokens.number;
                tokens.advance();
            }
        }

        private void readFormula(Formula formula, int length) {
            formula.isTold = true;
            top = 0;
            open = 0;
            boolean wantsOperand = true;
            for (int i = 0; i <= length && faultKind == 0; i++) {
                if (!wantsOperand && open == 0 && tokens.token == SEMICOLON) {
                    release(formula, 0);
                    return;
                }
                wantsOperand = wantsOperand ? isStillWantedBehind(formula) : isWantedBehindSign(formula);
                tokens.advance();
            }
        }

        private boolean isStillWantedBehind(Formula formula) {
            int token = tokens.token;
            if (token == OPEN) {
                openOne();
                return true;
            }
            if (token == NOT && strengthOf(lastWaiting()) <= strengthOf(NOT)) {
                if (tieKnot()) {
                    await(NOT);
                }
                return true;
            }
            if (token == NUMBER && tokens.number > MOST_NUMBER) {
                fail(FAULT_TOO_MUCH);
            } else if (token != NUMBER && (token < RANK || token > DOUBTED)) {
                fail(FAULT_TOKEN);
            } else if (tieKnot()) {
                formula.add(token == NUMBER ? tokens.number : -token);
            }
            return false;
        }

        private boolean isWantedBehindSign(Formula formula) {
            int token = tokens.token;
            if (token == CLOSE && open > 0) {
                release(formula, 0);
                open--;
                top--;
                return false;
            }
            int strength = strengthOf(token);
            if (strength == 0 || token == NOT) {
                fail(FAULT_TOKEN);
                return true;
            }
            boolean compares = strength == strengthOf(EQUAL);
            release(formula, compares ? strength + 1 : strength);
            if (compares && strengthOf(lastWaiting()) == strength) {
                fail(FAULT_TOKEN);
            } else if (tieKnot()) {
                await(token);
            }
            return true;
        }

        private void openOne() {
            if (open >= MOST_OPEN) {
                fail(FAULT_TOO_MUCH);
                return;
            }
            open++;
            await(OPEN);
        }

        private boolean tieKnot() {
            if (into.knots >= MOST_KNOTS) {
                fail(FAULT_TOO_MUCH);
                return false;
            }
            into.knots++;
            return true;
        }

        private void await(int token) {
            if (top < waiting.length) {
                waiting[top] = token;
                top++;
            }
        }

        private int lastWaiting() {
            return top > 0 ? waiting[top - 1] : OPEN;
        }

        private void release(Formula formula, int least) {
            while (top > 0 && waiting[top - 1] != OPEN && strengthOf(waiting[top - 1]) >= least) {
                top--;
                formula.add(-waiting[top]);
            }
        }

        private void fail(int kind) {
            if (faultKind == 0) {
                faultKind = kind;
                faultPlace = tokens.place;
            }
        }

        private static int strengthOf(int token) {
            switch (token) {
                case OR:
                    return 1;
                case AND:
                    return 2;
                case NOT:
                    return 3;
                case LESS:
                case LESS_OR_EQUAL:
                case EQUAL:
                case UNEQUAL:
                case MORE_OR_EQUAL:
                case MORE:
                    return 4;
                case PLUS:
                case MINUS:
                    return 5;
                case TIMES:
                case OVER:
                    return 6;
                default:
                    return 0;
            }
        }
    }

    /** What is KNOWN on a DAY, told by tables: NOTES that count, POINTS by the least that they are JOINED with. */
    private static final class Known {
        private final Points points;
        private final Cases cases;
        private final Notes notes;
        private int seen;
        final int[] least = new int[MOST_POINTS];
        final int[] against = new int[MOST_POINTS];
        final int[] undoers = new int[MOST_CASES];
        final int[] overrulers = new int[MOST_CASES * MOST_POINTS];
        final int[] doubters = new int[MOST_CASES * MOST_POINTS];
        // The CASES that have a HOLDING or SAYING of a POINT, as bits.
        final int[] speakers = new int[MOST_POINTS];
        // HOLDINGS and SAYINGS, CASE by CASE: those of a CASE stand from its start up to its end.
        final int[] opinions = new int[MOST_NOTES];
        final int[] starts = new int[MOST_CASES];
        final int[] ends = new int[MOST_CASES];
        final int[] statutes = new int[MOST_NOTES];
        int statuteCount;
        private final int[] counting = new int[MOST_NOTES];

        Known(Points points, Cases cases, Notes notes) {
            this.points = points;
            this.cases = cases;
            this.notes = notes;
        }

        void see(int day, int without) {
            seeCases(day, without);
            seeNotes(day);
            seeJoinings();
            seeOpposed();
            seeOpinions();
            seeTreatments();
            seeStatutes();
        }

        boolean sees(int kase) {
            return has(seen, kase);
        }

        static int placeOf(int kase, int point) {
            return kase * MOST_POINTS + point;
        }

        private void seeCases(int day, int without) {
            seen = 0;
            for (int kase = 0; kase < cases.size; kase++) {
                if (kase != without && cases.told[kase] <= day) {
                    seen |= 1 << kase;
                }
            }
        }

        private void seeNotes(int day) {
            for (int note = 0; note < notes.size; note++) {
                counting[note] = notes.told[note] <= day && isOfSeenCases(note) ? 1 : 0;
            }
            // From the last one on: a STRIKE can only be STRUCK by one behind it.
            for (int note = notes.size - 1; note >= 0; note--) {
                if (counting[note] != 0 && notes.kinds[note] == STRIKE) {
                    counting[notes.others[note]] = 0;
                }
            }
        }

        private boolean isOfSeenCases(int note) {
            int kind = notes.kinds[note];
            if (kind > UNDOING) {
                return true;
            }
            return sees(notes.kases[note]) && (kind <= SAYING || sees(notes.others[note]));
        }

        private boolean counts(int note, int kind) {
            return counting[note] != 0 && notes.kinds[note] == kind;
        }

        private void seeJoinings() {
            for (int point = 0; point < points.size; point++) {
                least[point] = point;
            }
            for (int note = 0; note < notes.size; note++) {
                if (counts(note, JOINING)) {
                    int one = least[notes.points[note]];
                    int other = least[notes.others[note]];
                    rename(Math.max(one, other), Math.min(one, other));
                }
            }
        }

        private void rename(int before, int behind) {
            for (int point = 0; point < points.size; point++) {
                if (least[point] == before) {
                    least[point] = behind;
                }
            }
        }

        private void seeOpposed() {
            Arrays.fill(against, 0);
            for (int one = 0; one < points.size; one++) {
                for (int other = 0; other < points.size; other++) {
                    if (points.areOpposed(one, other) && least[one] != least[other]) {
                        against[least[one]] |= 1 << least[other];
                    }
                }
            }
        }

        private void seeOpinions() {
            Arrays.fill(speakers, 0);
            Arrays.fill(ends, 0);
            for (int note = 0; note < notes.size; note++) {
                if (isOpinion(note)) {
                    ends[notes.kases[note]]++;
                }
            }
            int start = 0;
            for (int kase = 0; kase < cases.size; kase++) {
                starts[kase] = start;
                start += ends[kase];
                ends[kase] = starts[kase];
            }
            for (int note = 0; note < notes.size; note++) {
                if (isOpinion(note)) {
                    int kase = notes.kases[note];
                    speakers[least[notes.points[note]]] |= 1 << kase;
                    opinions[ends[kase]] = note;
                    ends[kase]++;
                }
            }
        }

        private boolean isOpinion(int note) {
            return counts(note, HOLDING) || counts(note, SAYING);
        }

        private void seeTreatments() {
            Arrays.fill(undoers, 0);
            Arrays.fill(overrulers, 0);
            Arrays.fill(doubters, 0);
            for (int note = 0; note < notes.size; note++) {
                if (counts(note, UNDOING)) {
                    undoers[notes.others[note]] |= 1 << notes.kases[note];
                } else if (counts(note, OVERRULING)) {
                    overrulers[placeOf(notes.others[note], least[notes.points[note]])] |= 1 << notes.kases[note];
                } else if (counts(note, DOUBT)) {
                    doubters[placeOf(notes.others[note], least[notes.points[note]])] |= 1 << notes.kases[note];
                }
            }
        }

        private void seeStatutes() {
            statuteCount = 0;
            for (int note = 0; note < notes.size; note++) {
                if (counts(note, STRIKING_STATUTE) || counts(note, LAYING_STATUTE)) {
                    statutes[statuteCount] = note;
                    statuteCount++;
                }
            }
        }
    }

    /** The law as of a DAY, of some of the KNOWN CASES alone. */
    private static final class World {
        private final Courts courts;
        private final Cases cases;
        private final Notes notes;
        final Known known;
        private RuleSet rules;
        private int day;
        private int there;
        int undone;
        // BLIND looks at the CASES ahead of a CASE alone, so it is the same as of every DAY.
        final int[] blind = new int[MOST_CASES];
        final int[] missed = new int[MOST_CASES];
        private final long[] names = new long[NAMES];
        private final long[] stack = new long[MOST_KNOTS];

        World(Courts courts, Cases cases, Known known, RuleSet rules) {
            this.courts = courts;
            this.cases = cases;
            this.notes = known.notes;
            this.known = known;
            this.rules = rules;
        }

        void see(RuleSet inForce, int today, int without) {
            rules = inForce;
            known.see(today, without);
            int ahead = 0;
            for (int i = 0; i < cases.size; i++) {
                int kase = cases.order[i];
                if (known.sees(kase)) {
                    findMissed(kase, ahead);
                    ahead |= 1 << kase;
                }
            }
        }

        void goToDay(int asOf) {
            int by = 0;
            for (int kase = 0; kase < cases.size; kase++) {
                if (known.sees(kase) && cases.days[kase] <= asOf) {
                    by |= 1 << kase;
                }
            }
            goTo(asOf, by);
        }

        boolean isThere(int kase) {
            return has(there, kase);
        }

        private void goTo(int asOf, int some) {
            day = asOf;
            there = some;
            undone = 0;
            for (int i = cases.size - 1; i >= 0; i--) {
                int kase = cases.order[i];
                if (isThere(kase) && alive(known.undoers[kase]) != 0) {
                    undone |= 1 << kase;
                }
            }
        }

        private int alive(int some) {
            return some & there & ~undone;
        }

        private void findMissed(int kase, int ahead) {
            blind[kase] = 0;
            missed[kase] = 0;
            int facts = cases.facts[kase];
            int held = 0;
            int opposed = 0;
            for (int point = 0; point < MOST_POINTS; point++) {
                if (has(known.speakers[point], kase) && isHeld(kase, point, facts)) {
                    held |= 1 << point;
                    opposed |= known.against[point];
                }
            }
            if (opposed == 0) {
                return;
            }
            goTo(cases.days[kase], ahead);
            int lawThen = 0;
            for (int point = 0; point < MOST_POINTS; point++) {
                if (has(opposed, point)) {
                    int binding = bindersOf(point, cases.courts[kase], facts);
                    missed[kase] |= binding;
                    lawThen |= binding != 0 || isLaid(point) ? 1 << point : 0;
                }
            }
            for (int point = 0; point < MOST_POINTS; point++) {
                if (has(held, point) && (known.against[point] & lawThen) != 0) {
                    blind[kase] |= 1 << point;
                }
            }
        }

        private int bindersOf(int point, int court, int facts) {
            int found = 0;
            int speaking = alive(known.speakers[point]);
            for (int kase = 0; kase < cases.size && speaking != 0; kase++) {
                if (has(speaking, kase) && weightOf(kase, point, court, facts) >= STANDS_DOUBTED) {
                    found |= 1 << kase;
                }
            }
            return found;
        }

        int votesFor(int kase, int point, int facts) {
            int judges = 0;
            for (int i = known.starts[kase]; i < known.ends[kase]; i++) {
                int note = known.opinions[i];
                if (notes.kinds[note] == HOLDING && speaks(note, point, facts)) {
                    judges |= 1 << notes.others[note];
                }
            }
            return Integer.bitCount(judges);
        }

        boolean isHeld(int kase, int point, int facts) {
            return votesFor(kase, point, facts) * 2 > cases.judges[kase];
        }

        private boolean speaks(int note, int point, int facts) {
            return known.least[notes.points[note]] == point && (notes.extras[note] & ~facts) == 0;
        }

        private boolean isSpokenOf(int kase, int point, int facts) {
            for (int i = known.starts[kase]; i < known.ends[kase]; i++) {
                if (speaks(known.opinions[i], point, facts)) {
                    return true;
                }
            }
            return false;
        }

        int doubtsOf(int kase, int point) {
            return Integer.bitCount(alive(known.doubters[Known.placeOf(kase, point)]));
        }

        boolean isOverruled(int kase, int point) {
            int later = alive(known.overrulers[Known.placeOf(kase, point)]);
            for (int one = 0; one < cases.size && later != 0; one++) {
                if (has(later, one)) {
                    nameSides(one, cases.courts[kase]);
                    names[VOTES - RANK] = votesFor(one, point, cases.facts[one]);
                    names[AGE - RANK] = cases.days[one] - cases.days[kase];
                    names[DOUBTED - RANK] = doubtsOf(kase, point);
                    if (rules.overruling.isTrue(names, stack)) {
                        return true;
                    }
                }
            }
            return false;
        }

        boolean doesBind(int kase, int point, int court, int facts) {
            nameSides(kase, court);
            names[VOTES - RANK] = votesFor(kase, point, facts);
            names[AGE - RANK] = day - cases.days[kase];
            names[DOUBTED - RANK] = doubtsOf(kase, point);
            return rules.binding.isTrue(names, stack);
        }

        private void nameSides(int kase, int other) {
            int court = cases.courts[kase];
            names[0] = courts.ranks[court];
            names[OWN - RANK] = courts.ranks[other];
            names[SAME - RANK] = court == other ? 1 : 0;
            names[LAND - RANK] = courts.lands[court] == courts.lands[other] ? 1 : 0;
            names[SEATS - RANK] = cases.judges[kase];
        }

        boolean isTaken(int kase, int point) {
            for (int i = 0; i < known.statuteCount; i++) {
                int note = known.statutes[i];
                boolean strikes = notes.kinds[note] == STRIKING_STATUTE && known.least[notes.points[note]] == point;
                if (strikes && notes.extras[note] <= day && notes.extras[note] >= cases.days[kase]) {
                    return true;
                }
            }
            return false;
        }

        private boolean isLaid(int point) {
            int latest = NONE;
            boolean lays = false;
            for (int i = 0; i < known.statuteCount; i++) {
                int note = known.statutes[i];
                int from = notes.extras[note];
                if (known.least[notes.points[note]] == point && from <= day && from >= latest) {
                    latest = from;
                    lays = notes.kinds[note] == LAYING_STATUTE;
                }
            }
            return lays;
        }

        // The STAND that this CASE alone would give the POINT; it is not UNDONE.
        private int weightOf(int kase, int point, int court, int facts) {
            if (!isSpokenOf(kase, point, facts) || isTaken(kase, point) || isOverruled(kase, point)) {
                return STANDS_NOT;
            }
            if (has(blind[kase], point) || !isHeld(kase, point, facts) || !doesBind(kase, point, court, facts)) {
                return STANDS_PERSUASIVE;
            }
            return doubtsOf(kase, point) >= rules.doubts ? STANDS_DOUBTED : STANDS_BINDING;
        }

        int standOf(int point, int court, int facts) {
            if (isLaid(point)) {
                return STANDS_LAID;
            }
            int most = STANDS_NOT;
            int speaking = alive(known.speakers[point]);
            for (int kase = 0; kase < cases.size && most < STANDS_BINDING && speaking != 0; kase++) {
                if (has(speaking, kase)) {
                    most = Math.max(most, weightOf(kase, point, court, facts));
                }
            }
            return most;
        }

        int leaderOf(int point, int court, int facts) {
            if (isLaid(point)) {
                return NONE;
            }
            int leader = NONE;
            int most = STANDS_NOT;
            int speaking = alive(known.speakers[point]);
            for (int i = 0; i < cases.size; i++) {
                int kase = cases.order[i];
                int weight = has(speaking, kase) ? weightOf(kase, point, court, facts) : STANDS_NOT;
                // The order brings the LATER one behind, so of equal ones the last is taken.
                if (weight > most || weight == most && leader != NONE && rankOf(kase) >= rankOf(leader)) {
                    leader = kase;
                    most = weight;
                }
            }
            return leader;
        }

        private int rankOf(int kase) {
            return courts.ranks[cases.courts[kase]];
        }
    }
}
