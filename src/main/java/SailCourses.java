import java.util.Arrays;

/**
 * Sailing over squares: the least minutes to every square, and what follows from them.
 * The document's promises say what each call answers; README.md says how to use the class.
 */
public final class SailCourses {
    public static final int NONE = -1, BAD = -2, STATE = -3, FULL = -4;
    public static final long NO = Long.MIN_VALUE;

    /** The answer where there is no such leg, way, row or minute. */
    private static final int ABSENT = -5;
    private static final int NOTHING = -11, CAST = -12, PLACE = -13, SIZE = -14;

    private static final int SQUARES = 36, HEADINGS = 8, ZONES = 4, SPANS = 4, TAPES = 6;
    private static final int SPAN_MINUTES = 360;
    private static final int GREATEST_LOSS = 60, LATEST_START = 9999, LATEST_TOLD = 99999;
    /** Stands above every minute that a boat can need. */
    private static final int NEVER = 1000000000;

    private final Sea sea = new Sea();
    private final Hand hand = new Hand();
    private final Chart chart = new Chart(sea);
    private final Surmise surmise = new Surmise();
    private final SetUp text = new SetUp();
    private final Tape[] tapes = new Tape[TAPES];
    private final Sea imageSea = new Sea();
    private final Hand imageHand = new Hand();
    private boolean imageTaken = false;

    public SailCourses() {
        for (int tape = 0; tape < TAPES; tape++) {
            tapes[tape] = new Tape();
        }
    }

    // ---- sea, winds, boat

    public int wind(int zone, int span, int from, int force) {
        if (!below(zone, ZONES) || !below(span, SPANS)) {
            return NONE;
        }
        if (!below(from, HEADINGS) || !below(force, 4)) {
            return BAD;
        }
        int before = 10 * sea.fromIn(zone, span) + sea.forceIn(zone, span);
        sea.putWind(zone, span, from, force);
        return before;
    }

    public int current(int zone, int to, int rate) {
        if (!below(zone, ZONES)) {
            return NONE;
        }
        if (!below(to, HEADINGS) || !below(rate, 4)) {
            return BAD;
        }
        int before = 10 * sea.toIn(zone) + sea.rateIn(zone);
        sea.putCurrent(zone, to, rate);
        return before;
    }

    public int table(int force, int angle, int v) {
        if (force < 1 || force > 3 || !below(angle, 5)) {
            return NONE;
        }
        if (!below(v, 10)) {
            return BAD;
        }
        int before = sea.speedBy(force, angle);
        sea.putSpeed(force, angle, v);
        return before;
    }

    public int land(int square, boolean is) {
        if (!below(square, SQUARES)) {
            return NONE;
        }
        if (is && square == sea.startSquare) {
            return STATE;
        }
        int before = sea.isLand(square) ? 1 : 0;
        sea.putLand(square, is);
        return before;
    }

    public int start(int square, int side, int minute) {
        int refusal = refusalOfStart(square, side, minute);
        if (refusal != 0) {
            return refusal;
        }
        sea.putStart(square, side, minute);
        return freshChart().squaresReached();
    }

    public int loss(int what, int v) {
        if (!below(what, 2)) {
            return NONE;
        }
        if (v < 0 || v > GREATEST_LOSS) {
            return BAD;
        }
        int before = sea.lossBy(what);
        sea.putLoss(what, v);
        return before;
    }

    public int steer(int heading) {
        if (heading == -1) {
            return hand.headings.clear();
        }
        if (!below(heading, HEADINGS)) {
            return NONE;
        }
        return hand.headings.add(heading, 0);
    }

    public int feed(int sign) {
        if (!below(sign, 128)) {
            return BAD;
        }
        return text.append(sign);
    }

    public int read() {
        int fault = text.parse();
        text.clear();
        if (fault != SetUp.FAULTLESS) {
            return -10 - fault;
        }
        int done = 0;
        for (int clause = 0; clause < text.clauseCount(); clause++) {
            if (doClause(clause)) {
                done++;
            }
        }
        return done;
    }

    // ---- what is told

    public int of(int zone, int span, int what) {
        if (!below(zone, ZONES) || !below(span, SPANS)) {
            return NONE;
        }
        switch (what) {
            case 0:
                return sea.fromIn(zone, span);
            case 1:
                return sea.forceIn(zone, span);
            case 2:
                return sea.toIn(zone);
            case 3:
                return sea.rateIn(zone);
            default:
                return NONE;
        }
    }

    public int speed(int force, int angle) {
        if (force < 1 || force > 3 || !below(angle, 5)) {
            return NONE;
        }
        return sea.speedBy(force, angle);
    }

    public int told(int what) {
        switch (what) {
            case 0:
            case 1:
                return sea.lossBy(what);
            case 2:
                return sea.startSquare;
            case 3:
                return sea.startSide;
            case 4:
                return sea.startMinute;
            case 5:
                return sea.landCount();
            case 6:
                return freshChart().squaresReached();
            case 7:
                return freshChart().leastOf(freshChart().farthestSquare());
            case 8:
                return freshChart().farthestSquare();
            default:
                return NONE;
        }
    }

    public int pace(int square, int heading, int minute) {
        if (!below(square, SQUARES) || !below(heading, HEADINGS)) {
            return NONE;
        }
        if (minute < 0 || minute > LATEST_START) {
            return BAD;
        }
        return sea.paceBy(Compass.zoneOf(square), Compass.spanOf(minute), heading);
    }

    // ---- legs, the least

    public int leg(int square, int side, int heading, int minute, int what) {
        if (!below(square, SQUARES) || sea.isLand(square) || !below(side, 2)) {
            return NONE;
        }
        if (!below(heading, HEADINGS) || !below(what, 3)) {
            return NONE;
        }
        if (minute < 0 || minute > LATEST_START) {
            return BAD;
        }
        Legs legs = chart.freshLegs();
        int departing = legs.soonestDeparture(square, side, heading, minute);
        if (departing == NEVER) {
            return ABSENT;
        }
        if (what == 1) {
            return departing;
        }
        int kind = Legs.kindOf(square, heading, departing);
        return what == 0 ? legs.arrival(kind, side, departing) : legs.sideThen(kind, side);
    }

    public int least(int square, int side) {
        if (!below(square, SQUARES) || !below(side, 3)) {
            return NONE;
        }
        int minute = side == 2 ? freshChart().leastOf(square) : freshChart().leastWith(square, side);
        return minute == NEVER ? ABSENT : minute;
    }

    public int last(int square, int side) {
        if (!below(square, SQUARES) || !below(side, 2)) {
            return NONE;
        }
        return freshChart().lastOf(square, side);
    }

    public int course(int square, int k) {
        if (!below(square, SQUARES) || k < -1) {
            return NONE;
        }
        int legCount = freshChart().layCourse(square);
        if (legCount == ABSENT || k >= legCount) {
            return ABSENT;
        }
        return k == -1 ? legCount : chart.courseHeading(k);
    }

    // ---- floats

    public long reckon(int what, int part) {
        if (!below(what, 2) || !below(part, 2)) {
            return NO;
        }
        long bits = Bits.ofDouble(reckoned(what == 0));
        return part == 0 ? bits >>> 32 : bits & 0xffffffffL;
    }

    public long meanPace(int square) {
        if (!below(square, SQUARES)) {
            return NO;
        }
        int legCount = freshChart().layCourse(square);
        if (legCount == ABSENT) {
            return NO;
        }
        int minutes = chart.leastOf(square) - sea.startMinute;
        if (minutes == 0) {
            return 0L;
        }
        return Bits.ofFloat((float) chart.courseLength() / (float) minutes);
    }

    // ---- seen, odds

    public int see(int square, int minute) {
        return tellSquareAndMinute(hand.seen, square, minute);
    }

    public int fits(int zone, int span, int what) {
        if (!below(zone, ZONES) || !below(span, SPANS) || !below(what, 2)) {
            return NONE;
        }
        surmise.turnWind(sea, zone, span);
        int fitting = 0;
        int first = ABSENT;
        for (int from = HEADINGS - 1; from >= 0; from--) {
            if (surmise.allSeenInTime(from, hand.seen)) {
                fitting++;
                first = from;
            }
        }
        return what == 0 ? fitting : first;
    }

    public long odds(int zone, int span, int square, int minute, int part) {
        if (!below(zone, ZONES) || !below(span, SPANS) || !below(square, SQUARES)) {
            return NO;
        }
        if (minute < 0 || minute > LATEST_TOLD || !below(part, 2)) {
            return NO;
        }
        surmise.turnWind(sea, zone, span);
        int inTime = 0;
        for (int from = 0; from < HEADINGS; from++) {
            if (surmise.leastWhenFrom(from, square) <= minute) {
                inTime++;
            }
        }
        return fractionPart(inTime, HEADINGS, part);
    }

    public long mean(int part) {
        if (!below(part, 2)) {
            return NO;
        }
        int reached = freshChart().squaresReached();
        long together = chart.leastTogether() - (long) reached * sea.startMinute;
        return fractionPart(together, reached, part);
    }

    // ---- events, books

    public int event(int what, int n) {
        if (what == -1) {
            return hand.events.clear();
        }
        if (!below(what, 4) || what != Sea.WINDS_TURN && !below(n, ZONES)) {
            return NONE;
        }
        if (!below(n, HEADINGS)) {
            return BAD;
        }
        return hand.events.add(what, n);
    }

    public int after(int what) {
        if (!below(what, 3)) {
            return NONE;
        }
        Chart then = surmise.undergo(sea, hand.events);
        if (what == 1) {
            return then.squaresReached();
        }
        if (what == 2) {
            return then.leastTogether();
        }
        int minute = then.leastOf(SQUARES - 1);
        return minute == NEVER ? ABSENT : minute;
    }

    public int book(int square, int minute) {
        return tellSquareAndMinute(hand.book, square, minute);
    }

    public int looked() {
        for (int row = 0; row < hand.book.size(); row++) {
            if (freshChart().leastOf(hand.book.first(row)) != hand.book.second(row)) {
                return row;
            }
        }
        return ABSENT;
    }

    // ---- judging, the image, tapes

    public int judge(int tape, int i) {
        Tape told = tapeAt(tape);
        if (told == null) {
            return NONE;
        }
        if (told.holdsNothing()) {
            return 100;
        }
        if (told.sort() != Tape.INTS) {
            return CAST;
        }
        for (int square = 0; square < SQUARES; square++) {
            long at = (long) i + square;
            if (i < 0 || at >= told.length()) {
                return 100 + square;
            }
            int minute = freshChart().leastOf(square);
            if (told.get((int) at) != (minute == NEVER ? -1 : minute)) {
                return square;
            }
        }
        return ABSENT;
    }

    public int image() {
        imageSea.becomeLike(sea);
        imageHand.becomeLike(hand);
        imageTaken = true;
        return sea.landCount();
    }

    public int undo() {
        if (!imageTaken) {
            return STATE;
        }
        sea.becomeLike(imageSea);
        hand.becomeLike(imageHand);
        return sea.landCount();
    }

    public int count(int what) {
        switch (what) {
            case 0:
                return hand.seen.size();
            case 1:
                return hand.events.size();
            case 2:
                return hand.book.size();
            case 3:
                return text.length();
            case 4:
                return hand.headings.size();
            default:
                return BAD;
        }
    }

    public int tape(int tape, int sort, int n) {
        Tape changed = tapeAt(tape);
        if (changed == null) {
            return NONE;
        }
        if (sort == Tape.NO_SORT) {
            changed.become(Tape.NO_SORT, 0);
            return 1;
        }
        if (!below(sort, Tape.SORTS) || n > Tape.LONGEST) {
            return BAD;
        }
        if (n < 0) {
            return SIZE;
        }
        changed.become(sort, n);
        return 1;
    }

    public int item(int tape, int i, long v) {
        Tape changed = tapeAt(tape);
        if (changed == null) {
            return NONE;
        }
        if (changed.holdsNothing()) {
            return NOTHING;
        }
        if (!below(i, changed.length())) {
            return PLACE;
        }
        changed.put(i, v);
        return 1;
    }

    public long peek(int tape, int i) {
        Tape asked = tapeAt(tape);
        if (asked == null || asked.holdsNothing() || !below(i, asked.length())) {
            return NO;
        }
        return asked.get(i);
    }

    public int shift(int tape, int i, int other, int j, int n) {
        Tape source = tapeAt(tape);
        Tape target = tapeAt(other);
        if (source == null || target == null) {
            return NONE;
        }
        if (source.holdsNothing() || target.holdsNothing()) {
            return NOTHING;
        }
        if (source.sort() != target.sort()) {
            return CAST;
        }
        if (!source.has(i, n) || !target.has(j, n)) {
            return PLACE;
        }
        target.take(source, i, j, n);
        return n;
    }

    // ---- what several calls need

    private static boolean below(int value, int bound) {
        return value >= 0 && value < bound;
    }

    private Chart freshChart() {
        chart.freshen();
        return chart;
    }

    private Tape tapeAt(int tape) {
        return below(tape, TAPES) ? tapes[tape] : null;
    }

    /** 0: START may become so. */
    private int refusalOfStart(int square, int side, int minute) {
        if (!below(square, SQUARES) || !below(side, 2)) {
            return NONE;
        }
        if (minute < 0 || minute > LATEST_START) {
            return BAD;
        }
        return sea.isLand(square) ? STATE : 0;
    }

    private static int tellSquareAndMinute(Rows rows, int square, int minute) {
        if (square == -1) {
            return rows.clear();
        }
        if (!below(square, SQUARES)) {
            return NONE;
        }
        if (minute < 0 || minute > LATEST_TOLD) {
            return BAD;
        }
        return rows.add(square, minute);
    }

    private static long fractionPart(long above, long beneath, int part) {
        long divisor = Bits.greatestDivisor(above, beneath);
        if (divisor == 0L) {
            return NO;
        }
        return (part == 0 ? above : beneath) / divisor;
    }

    private double reckoned(boolean eastward) {
        int zone = Compass.zoneOf(sea.startSquare);
        int minute = sea.startMinute;
        double far = 0.0;
        for (int row = 0; row < hand.headings.size(); row++) {
            int heading = hand.headings.first(row);
            int paceThen = sea.paceBy(zone, Compass.spanOf(minute), heading);
            double made = (double) ((float) paceThen / 6.0f);
            far = far + made * (eastward ? Compass.sine(heading) : Compass.cosine(heading));
            minute = minute + 10;
        }
        return far;
    }

    // ---- doing the clauses of a set-up

    /** Whether the clause was done: it is refused as the call like it would be. */
    private boolean doClause(int clause) {
        int first = text.number(clause, 0);
        int second = text.number(clause, 1);
        int third = text.number(clause, 2);
        switch (text.kind(clause)) {
            case 'w':
                return wind(first, second, third, text.number(clause, 3)) >= 0;
            case 'c':
                return current(first, second, third) >= 0;
            case 'b':
                return doTable(clause, first);
            case 'l':
                return below(first, SQUARES) && land(first, !sea.isLand(first)) >= 0;
            case 's':
                return doStart(first, second, third);
            case 't':
                return doLosses(first, second);
            default:
                return false;
        }
    }

    private boolean doTable(int clause, int force) {
        if (force < 1 || force > 3) {
            return false;
        }
        for (int angle = 0; angle < 5; angle++) {
            sea.putSpeed(force, angle, text.number(clause, 1 + angle));
        }
        return true;
    }

    private boolean doStart(int square, int side, int minute) {
        if (refusalOfStart(square, side, minute) != 0) {
            return false;
        }
        sea.putStart(square, side, minute);
        return true;
    }

    private boolean doLosses(int tack, int gybe) {
        if (tack > GREATEST_LOSS || gybe > GREATEST_LOSS) {
            return false;
        }
        sea.putLoss(0, tack);
        sea.putLoss(1, gybe);
        return true;
    }

    // ---- classes inside

    /** Directions and squares, as they lie to one another. */
    private static final class Compass {
        static final int NO_SQUARE = -1;
        private static final int[] SOUTHWARD = {-1, -1, 0, 1, 1, 1, 0, -1};
        private static final int[] EASTWARD = {0, 1, 1, 1, 0, -1, -1, -1};

        static int turnBetween(int one, int another) {
            int round = one < another ? another - one : one - another;
            return round > 4 ? 8 - round : round;
        }

        static int squareBeside(int square, int heading) {
            if (heading < 0 || heading >= SOUTHWARD.length || heading >= EASTWARD.length) {
                return NO_SQUARE;
            }
            int row = square / 6 + SOUTHWARD[heading];
            int column = square % 6 + EASTWARD[heading];
            if (row < 0 || row > 5 || column < 0 || column > 5) {
                return NO_SQUARE;
            }
            return 6 * row + column;
        }

        static int zoneOf(int square) {
            return 2 * (square / 6 / 3) + square % 6 / 3;
        }

        static int spanOf(int minute) {
            return minute / SPAN_MINUTES % SPANS;
        }

        static int lengthOf(int heading) {
            return heading % 2 == 1 ? 850 : 600;
        }

        static double sine(int heading) {
            switch (heading) {
                case 1:
                case 3:
                    return 0.7071067811865476;
                case 2:
                    return 1.0;
                case 5:
                case 7:
                    return -0.7071067811865476;
                case 6:
                    return -1.0;
                default:
                    return 0.0;
            }
        }

        static double cosine(int heading) {
            return sine((heading + 2) % 8);
        }
    }

    /** Numbers taken apart: the rules leave no library for it. */
    private static final class Bits {
        static long ofDouble(double value) {
            if (value < 0.0) {
                return ofMagnitude(-value, 52, 1023) | 1L << 63;
            }
            return ofMagnitude(value, 52, 1023);
        }

        /** Of 0.0f and more: no pace is below that. */
        static long ofFloat(float value) {
            return ofMagnitude((double) value, 23, 127);
        }

        /** Halving and doubling are exact, so no bit is lost on the way. */
        private static long ofMagnitude(double magnitude, int fractionBits, int bias) {
            double scaled = magnitude;
            int exponent = 0;
            for (int step = 0; step < 1100 && scaled >= 2.0; step++) {
                scaled = scaled / 2.0;
                exponent++;
            }
            for (int step = 0; step < 1100 && scaled < 1.0 && exponent > 1 - bias; step++) {
                scaled = scaled * 2.0;
                exponent--;
            }
            long whole = (long) (scaled * (double) (1L << fractionBits));
            // whole holds the leading 1 itself, which makes up for the 1 less here.
            return ((long) (exponent + bias - 1) << fractionBits) + whole;
        }

        /** 0 only if both are. */
        static long greatestDivisor(long one, long another) {
            long greater = one;
            long less = another;
            for (int step = 0; step < 200 && less != 0L; step++) {
                long rest = greater % less;
                greater = less;
                less = rest;
            }
            return greater;
        }
    }

    /** What set-ups tell. Its version tells others when what they worked out is stale. */
    private static final class Sea {
        static final int CALM = 0, WIND_RISES = 1, WINDS_TURN = 2, CURRENT_ENDS = 3;
        private static final int[] FIRST_TABLE = {0, 1, 2, 3, 2, 0, 2, 4, 5, 4, 0, 3, 5, 7, 6};

        private final int[] from = new int[ZONES * SPANS];
        private final int[] force = new int[ZONES * SPANS];
        private final int[] to = new int[ZONES];
        private final int[] rate = new int[ZONES];
        private final int[] speeds = new int[FIRST_TABLE.length];
        private final int[] losses = new int[2];
        /** A bit by each square. */
        private long landBits = 0L;
        int startSquare = 0;
        int startSide = 0;
        int startMinute = 0;
        int version = 0;

        Sea() {
            Arrays.fill(force, 2);
            System.arraycopy(FIRST_TABLE, 0, speeds, 0, FIRST_TABLE.length);
            losses[0] = 5;
            losses[1] = 9;
        }

        void becomeLike(Sea other) {
            System.arraycopy(other.from, 0, from, 0, from.length);
            System.arraycopy(other.force, 0, force, 0, force.length);
            System.arraycopy(other.to, 0, to, 0, to.length);
            System.arraycopy(other.rate, 0, rate, 0, rate.length);
            System.arraycopy(other.speeds, 0, speeds, 0, speeds.length);
            System.arraycopy(other.losses, 0, losses, 0, losses.length);
            landBits = other.landBits;
            startSquare = other.startSquare;
            startSide = other.startSide;
            startMinute = other.startMinute;
            version++;
        }

        int fromIn(int zone, int span) {
            return from[zone * SPANS + span];
        }

        int forceIn(int zone, int span) {
            return force[zone * SPANS + span];
        }

        void putWind(int zone, int span, int newFrom, int newForce) {
            from[zone * SPANS + span] = newFrom;
            force[zone * SPANS + span] = newForce;
            version++;
        }

        int toIn(int zone) {
            return to[zone];
        }

        int rateIn(int zone) {
            return rate[zone];
        }

        void putCurrent(int zone, int newTo, int newRate) {
            to[zone] = newTo;
            rate[zone] = newRate;
            version++;
        }

        int speedBy(int byForce, int angle) {
            return byForce == 0 ? 0 : speeds[(byForce - 1) * 5 + angle];
        }

        void putSpeed(int byForce, int angle, int v) {
            speeds[(byForce - 1) * 5 + angle] = v;
            version++;
        }

        int lossBy(int what) {
            return losses[what];
        }

        void putLoss(int what, int v) {
            losses[what] = v;
            version++;
        }

        boolean isLand(int square) {
            return (landBits >>> square & 1L) != 0L;
        }

        int landCount() {
            return Long.bitCount(landBits);
        }

        void putLand(int square, boolean is) {
            long bit = 1L << square;
            landBits = is ? landBits | bit : landBits & ~bit;
            version++;
        }

        void putStart(int square, int side, int minute) {
            startSquare = square;
            startSide = side;
            startMinute = minute;
            version++;
        }

        /** 0: there is none. */
        int paceBy(int zone, int span, int heading) {
            int angle = Compass.turnBetween(heading, fromIn(zone, span));
            int drift = driftBy(rateIn(zone), Compass.turnBetween(heading, toIn(zone)));
            return Math.max(speedBy(forceIn(zone, span), angle) + drift, 0);
        }

        private static int driftBy(int byRate, int turn) {
            switch (turn) {
                case 0:
                    return byRate;
                case 1:
                    return byRate / 2;
                case 3:
                    return -(byRate / 2);
                case 4:
                    return -byRate;
                default:
                    return 0;
            }
        }

        void undergo(int what, int n) {
            version++;
            switch (what) {
                case CALM:
                    Arrays.fill(force, n * SPANS, (n + 1) * SPANS, 0);
                    break;
                case WIND_RISES:
                    for (int span = 0; span < SPANS; span++) {
                        force[n * SPANS + span] = Math.min(forceIn(n, span) + 1, 3);
                    }
                    break;
                case WINDS_TURN:
                    for (int cell = 0; cell < from.length; cell++) {
                        from[cell] = (from[cell] + n) % HEADINGS;
                    }
                    break;
                case CURRENT_ENDS:
                    rate[n] = 0;
                    break;
                default:
                    break;
            }
        }
    }

    /** What legs take and do, by zone, span and heading: worked out once for all squares. */
    private static final class Legs {
        private static final int KINDS = ZONES * SPANS * HEADINGS;
        private static final int SAME_SIDE = 2;

        private final Sea sea;
        /** Without what turning costs; 0: there is no pace. */
        private final int[] minutes = new int[KINDS];
        private final int[] becomes = new int[KINDS];
        private final int[] turningCost = new int[KINDS];
        private int version = -1;

        Legs(Sea sea) {
            this.sea = sea;
        }

        void freshen() {
            if (version == sea.version) {
                return;
            }
            for (int kind = 0; kind < KINDS; kind++) {
                workOut(kind);
            }
            version = sea.version;
        }

        private void workOut(int kind) {
            int heading = kind % HEADINGS;
            int span = kind / HEADINGS % SPANS;
            int zone = kind / HEADINGS / SPANS;
            int from = sea.fromIn(zone, span);
            int paceThen = sea.paceBy(zone, span, heading);
            minutes[kind] = paceThen < 1 ? 0 : (Compass.lengthOf(heading) + paceThen - 1) / paceThen;
            int off = (heading + HEADINGS - from) % HEADINGS;
            becomes[kind] = off == 0 || off == 4 ? SAME_SIDE : off < 4 ? 0 : 1;
            turningCost[kind] = sea.lossBy(Compass.turnBetween(heading, from) <= 2 ? 0 : 1);
        }

        static int kindOf(int square, int heading, int departing) {
            int cell = Compass.zoneOf(square) * SPANS + Compass.spanOf(departing);
            return cell * HEADINGS + heading;
        }

        /** The square that a leg would end at, if there were a pace. */
        int targetOf(int square, int heading) {
            int target = Compass.squareBeside(square, heading);
            return target == Compass.NO_SQUARE || sea.isLand(target) ? Compass.NO_SQUARE : target;
        }

        /** By choice 0 at once, by 1 to 3 when that many spans more begin. */
        static int departure(int minute, int choice) {
            return choice == 0 ? minute : (minute / SPAN_MINUTES + choice) * SPAN_MINUTES;
        }

        /** NEVER: there is no pace. */
        int arrival(int kind, int side, int departing) {
            if (minutes[kind] == 0) {
                return NEVER;
            }
            int cost = becomes[kind] == 1 - side ? turningCost[kind] : 0;
            return departing + minutes[kind] + cost;
        }

        int sideThen(int kind, int side) {
            return becomes[kind] == SAME_SIDE ? side : becomes[kind];
        }

        /** NEVER: there is no leg. */
        int soonestDeparture(int square, int side, int heading, int minute) {
            if (targetOf(square, heading) == Compass.NO_SQUARE) {
                return NEVER;
            }
            int soonest = NEVER;
            int first = NEVER;
            for (int choice = 0; choice < SPANS; choice++) {
                int departing = departure(minute, choice);
                int arriving = arrival(kindOf(square, heading, departing), side, departing);
                if (arriving < first) {
                    first = arriving;
                    soonest = departing;
                }
            }
            return soonest;
        }
    }

    /**
     * LEAST of every spot (a square with a side: 2 times the square, and the side).
     * Settling the nearest spot first is right although legs may wait: whoever comes later
     * can depart in no span in which the earlier one can't depart as early.
     */
    private static final class Chart {
        private static final int SPOTS = SQUARES * 2;
        private static final int NOT_SOUGHT = -1;
        /** The headings to a square from those beside it, these in their order. */
        private static final int[] HEADINGS_INTO = {3, 4, 5, 2, 6, 1, 0, 7};

        private final Sea sea;
        private final Legs legs;
        private final int[] least = new int[SPOTS];
        /** The spots that are reached and not yet left; each comes here once. */
        private final int[] open = new int[SPOTS];
        private int openCount = 0;
        /** As the call last answers; looked for only when it is asked for. */
        private final int[] lastLegs = new int[SPOTS];
        /** The headings of the course that was laid, from its end on. */
        private final int[] courseBack = new int[SPOTS];
        private int courseCount = 0;
        private int version = -1;

        Chart(Sea sea) {
            this.sea = sea;
            this.legs = new Legs(sea);
        }

        Legs freshLegs() {
            legs.freshen();
            return legs;
        }

        void freshen() {
            if (version == sea.version) {
                return;
            }
            legs.freshen();
            Arrays.fill(least, NEVER);
            Arrays.fill(lastLegs, NOT_SOUGHT);
            openCount = 0;
            reach(startSpot(), sea.startMinute);
            settleAll();
            version = sea.version;
        }

        private int startSpot() {
            return 2 * sea.startSquare + sea.startSide;
        }

        private void reach(int spot, int minute) {
            if (least[spot] == NEVER && openCount < SPOTS) {
                open[openCount] = spot;
                openCount++;
            }
            least[spot] = minute;
        }

        private void settleAll() {
            for (int round = 0; round < SPOTS && openCount > 0; round++) {
                int spot = takeNearest();
                for (int heading = 0; heading < HEADINGS; heading++) {
                    sailOn(spot, heading);
                }
            }
        }

        private int takeNearest() {
            int nearest = 0;
            for (int nth = 1; nth < openCount; nth++) {
                if (least[open[nth]] < least[open[nearest]]) {
                    nearest = nth;
                }
            }
            int spot = open[nearest];
            openCount--;
            open[nearest] = open[openCount];
            return spot;
        }

        private void sailOn(int spot, int heading) {
            int square = spot / 2;
            int side = spot % 2;
            int target = legs.targetOf(square, heading);
            if (target == Compass.NO_SQUARE) {
                return;
            }
            for (int choice = 0; choice < SPANS; choice++) {
                int departing = Legs.departure(least[spot], choice);
                // Who departs this late can't be there sooner by either side.
                if (departing >= least[2 * target] && departing >= least[2 * target + 1]) {
                    return;
                }
                int kind = Legs.kindOf(square, heading, departing);
                int there = 2 * target + legs.sideThen(kind, side);
                int arriving = legs.arrival(kind, side, departing);
                if (arriving < least[there]) {
                    reach(there, arriving);
                }
            }
        }

        int leastWith(int square, int side) {
            return least[2 * square + side];
        }

        int leastOf(int square) {
            return Math.min(least[2 * square], least[2 * square + 1]);
        }

        int squaresReached() {
            int reached = 0;
            for (int square = 0; square < SQUARES; square++) {
                if (leastOf(square) != NEVER) {
                    reached++;
                }
            }
            return reached;
        }

        int leastTogether() {
            int together = 0;
            for (int square = 0; square < SQUARES; square++) {
                if (leastOf(square) != NEVER) {
                    together = together + leastOf(square);
                }
            }
            return together;
        }

        int farthestSquare() {
            int farthest = sea.startSquare;
            for (int square = SQUARES - 1; square >= 0; square--) {
                if (leastOf(square) != NEVER && leastOf(square) >= leastOf(farthest)) {
                    farthest = square;
                }
            }
            return farthest;
        }

        /** 100 times the square, 10 times the side and the heading, together; ABSENT: none. */
        int lastOf(int square, int side) {
            int spot = 2 * square + side;
            if (lastLegs[spot] == NOT_SOUGHT) {
                boolean none = least[spot] == NEVER || spot == startSpot();
                lastLegs[spot] = none ? ABSENT : seekLast(square, side);
            }
            return lastLegs[spot];
        }

        private int seekLast(int square, int side) {
            for (int nth = 0; nth < HEADINGS_INTO.length; nth++) {
                int heading = HEADINGS_INTO[nth];
                int before = Compass.squareBeside(square, (heading + 4) % HEADINGS);
                if (before == Compass.NO_SQUARE) {
                    continue;
                }
                for (int sideBefore = 0; sideBefore < 2; sideBefore++) {
                    if (endsAtLeast(2 * before + sideBefore, heading, 2 * square + side)) {
                        return 100 * before + 10 * sideBefore + heading;
                    }
                }
            }
            return ABSENT;
        }

        private boolean endsAtLeast(int spot, int heading, int spotThen) {
            if (least[spot] >= least[spotThen]) {
                return false;
            }
            for (int choice = 0; choice < SPANS; choice++) {
                int departing = Legs.departure(least[spot], choice);
                int kind = Legs.kindOf(spot / 2, heading, departing);
                boolean thatSide = legs.sideThen(kind, spot % 2) == spotThen % 2;
                if (thatSide && legs.arrival(kind, spot % 2, departing) == least[spotThen]) {
                    return true;
                }
            }
            return false;
        }

        /** How many legs it has, which courseHeading and courseLength tell of; ABSENT: no way. */
        int layCourse(int square) {
            courseCount = 0;
            if (leastOf(square) == NEVER) {
                return ABSENT;
            }
            int side = least[2 * square] <= least[2 * square + 1] ? 0 : 1;
            int lastLeg = lastOf(square, side);
            for (int step = 0; step < SPOTS && lastLeg != ABSENT; step++) {
                courseBack[step] = lastLeg % 10;
                courseCount++;
                lastLeg = lastOf(lastLeg / 100, lastLeg / 10 % 10);
            }
            return courseCount;
        }

        int courseHeading(int k) {
            return below(k, courseCount) ? courseBack[courseCount - 1 - k] : ABSENT;
        }

        int courseLength() {
            int length = 0;
            for (int step = 0; step < courseCount; step++) {
                length = length + Compass.lengthOf(courseBack[step]);
            }
            return length;
        }
    }

    /** How it would be by another wind, or behind events; the sea itself stays as it is. */
    private static final class Surmise {
        private final Sea tried = new Sea();
        private final Chart triedChart = new Chart(tried);
        /** LEAST by from and square, worked out for the zone, the span and the sea's version. */
        private final int[] leastByFrom = new int[HEADINGS * SQUARES];
        private int zone = -1;
        private int span = -1;
        private int version = -1;

        void turnWind(Sea sea, int inZone, int inSpan) {
            if (inZone == zone && inSpan == span && version == sea.version) {
                return;
            }
            tried.becomeLike(sea);
            for (int from = 0; from < HEADINGS; from++) {
                tried.putWind(inZone, inSpan, from, sea.forceIn(inZone, inSpan));
                triedChart.freshen();
                for (int square = 0; square < SQUARES; square++) {
                    leastByFrom[from * SQUARES + square] = triedChart.leastOf(square);
                }
            }
            zone = inZone;
            span = inSpan;
            version = sea.version;
        }

        int leastWhenFrom(int from, int square) {
            return leastByFrom[from * SQUARES + square];
        }

        boolean allSeenInTime(int from, Rows seen) {
            for (int row = 0; row < seen.size(); row++) {
                if (leastWhenFrom(from, seen.first(row)) > seen.second(row)) {
                    return false;
                }
            }
            return true;
        }

        Chart undergo(Sea sea, Rows events) {
            tried.becomeLike(sea);
            for (int row = 0; row < events.size(); row++) {
                tried.undergo(events.first(row), events.second(row));
            }
            triedChart.freshen();
            return triedChart;
        }
    }

    /** Rows of two numbers, as many as there may be. */
    private static final class Rows {
        private final int[] firsts;
        private final int[] seconds;
        private int size = 0;

        Rows(int most) {
            firsts = new int[most];
            seconds = new int[most];
        }

        int size() {
            return size;
        }

        int first(int row) {
            return below(row, size) ? firsts[row] : NONE;
        }

        int second(int row) {
            return below(row, size) ? seconds[row] : NONE;
        }

        /** How many there are then; FULL. */
        int add(int first, int second) {
            if (size >= firsts.length) {
                return FULL;
            }
            firsts[size] = first;
            seconds[size] = second;
            size++;
            return size;
        }

        int clear() {
            size = 0;
            return 0;
        }

        void becomeLike(Rows other) {
            clear();
            for (int row = 0; row < other.size; row++) {
                add(other.firsts[row], other.seconds[row]);
            }
        }
    }

    /** What is told by hand. */
    private static final class Hand {
        final Rows headings = new Rows(8);
        final Rows seen = new Rows(5);
        final Rows events = new Rows(8);
        final Rows book = new Rows(8);

        void becomeLike(Hand other) {
            headings.becomeLike(other.headings);
            seen.becomeLike(other.seen);
            events.becomeLike(other.events);
            book.becomeLike(other.book);
        }
    }

    /** THE TEXT, and the clauses that were found in it. */
    private static final class SetUp {
        static final int FAULTLESS = -1;
        private static final int LONGEST = 100, MOST_CLAUSES = 12, MOST_NUMBERS = 6;

        private final int[] signs = new int[LONGEST];
        private int length = 0;
        private final int[] kinds = new int[MOST_CLAUSES];
        private final int[] numbers = new int[MOST_CLAUSES * MOST_NUMBERS];
        private int clauses = 0;
        private int numbersHere = 0;
        private int at = 0;

        int length() {
            return length;
        }

        int append(int sign) {
            if (length >= LONGEST) {
                return FULL;
            }
            signs[length] = sign;
            length++;
            return length;
        }

        /** The clauses found stay. */
        void clear() {
            length = 0;
        }

        int clauseCount() {
            return clauses;
        }

        int kind(int clause) {
            return below(clause, clauses) ? kinds[clause] : 0;
        }

        int number(int clause, int nth) {
            if (!below(clause, clauses) || !below(nth, MOST_NUMBERS)) {
                return NONE;
            }
            return numbers[clause * MOST_NUMBERS + nth];
        }

        /** The fault, or FAULTLESS. */
        int parse() {
            at = 0;
            clauses = 0;
            for (int clause = 0; clause < MOST_CLAUSES; clause++) {
                if (!takeClause()) {
                    return at;
                }
                if (at == length) {
                    return FAULTLESS;
                }
                if (clauses == MOST_CLAUSES || !take(';')) {
                    return at;
                }
            }
            return at;
        }

        private boolean isNext(int lowest, int highest) {
            return at < length && signs[at] >= lowest && signs[at] <= highest;
        }

        private boolean take(char sign) {
            if (!isNext(sign, sign)) {
                return false;
            }
            at++;
            return true;
        }

        private boolean takeClause() {
            if (at >= length || clauses >= MOST_CLAUSES) {
                return false;
            }
            String form = formOf(signs[at]);
            if (form.isEmpty()) {
                return false;
            }
            kinds[clauses] = signs[at];
            numbersHere = 0;
            at++;
            for (int field = 0; field < form.length(); field++) {
                if (!takeField(form.charAt(field))) {
                    return false;
                }
            }
            clauses++;
            return true;
        }

        /** d: a digit; q: just 2 (a square); u: 1 or 2; m: 1 to 4 (a minute); a comma is itself. */
        private static String formOf(int kind) {
            switch (kind) {
                case 'w':
                    return "dddd";
                case 'c':
                    return "ddd";
                case 'b':
                    return "dddddd";
                case 'l':
                    return "q";
                case 's':
                    return "qdm";
                case 't':
                    return "u,u";
                default:
                    return "";
            }
        }

        private boolean takeField(char field) {
            switch (field) {
                case 'd':
                    return takeNumber(1, 1);
                case 'q':
                    return takeNumber(2, 2);
                case 'u':
                    return takeNumber(1, 2);
                case 'm':
                    return takeNumber(1, 4);
                default:
                    return take(field);
            }
        }

        private boolean takeNumber(int fewest, int most) {
            int number = 0;
            int digits = 0;
            for (; digits < most && isNext('0', '9'); digits++) {
                number = 10 * number + signs[at] - '0';
                at++;
            }
            if (digits < fewest || numbersHere >= MOST_NUMBERS) {
                return false;
            }
            numbers[clauses * MOST_NUMBERS + numbersHere] = number;
            numbersHere++;
            return true;
        }
    }

    /** A row of one sort; its items are kept as longs that fit the sort. */
    private static final class Tape {
        static final int NO_SORT = -1, BYTES = 0, SHORTS = 1, INTS = 2, LONGS = 3, BOOLEANS = 4;
        static final int SORTS = 5, LONGEST = 60;

        private final long[] items = new long[LONGEST];
        private int sort = NO_SORT;
        private int length = 0;

        int sort() {
            return sort;
        }

        int length() {
            return length;
        }

        boolean holdsNothing() {
            return sort == NO_SORT;
        }

        void become(int newSort, int newLength) {
            sort = newSort;
            length = newLength;
            Arrays.fill(items, 0L);
        }

        long get(int i) {
            return below(i, length) ? items[i] : NO;
        }

        void put(int i, long v) {
            if (below(i, length)) {
                items[i] = fitted(v);
            }
        }

        private long fitted(long v) {
            switch (sort) {
                case BYTES:
                    return (long) (byte) v;
                case SHORTS:
                    return (long) (short) v;
                case INTS:
                    return (long) (int) v;
                case BOOLEANS:
                    return v != 0L ? 1L : 0L;
                default:
                    return v;
            }
        }

        /** Whether n items from i on are there; told by subtracting, which can't run over. */
        boolean has(int i, int n) {
            return i >= 0 && n >= 0 && i <= length && n <= length - i;
        }

        void take(Tape source, int i, int j, int n) {
            if (source.has(i, n) && has(j, n)) {
                System.arraycopy(source.items, i, items, j, n);
            }
        }
    }
}
