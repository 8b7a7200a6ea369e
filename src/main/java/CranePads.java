import java.util.Arrays;

/** A judge of cranes on four pads. The numbered promises that it keeps stand in ../shared/DOC.md. */
public final class CranePads {
    public static final int NONE = -1, BAD = -2, STATE = -3, FULL = -4;
    public static final long NO = Long.MIN_VALUE;

    private static final int NOT_SO = -5, NOTHING = -11, BEYOND = -13, BELOW = -14, TEXT_FAULT = -100;

    private static final int PADS = 4, PARTS = 8, CHARTS = 3, ENTRIES = 10, DIRECTIONS = 20;
    private static final int QUARTER_SIZE = 5, REACHES = 61, SIDES = 60, LOADS = 1000, MASSES = 999, LIFTS = 8;
    private static final int LISTS = 4, LONGEST_LIST = 30, TAPE_SIZE = 100, BLANK = 32, SEMICOLON = 59;
    /** "set" and ';' are the shortest: 25 of them and no more go into 100 bytes. */
    private static final int STEPS = 25;
    private static final int FIGURES = 4;

    /** The numbers of put() and told(); 8 and 9 are none. */
    private static final int DIRECTION = 0, REACH = 1, HOOK = 2, LOAD = 3, GROUND = 4, CHART = 5, WIND = 6, MANNER = 7;
    private static final int FIRST_QUARTER = 10, DIALS = 14;
    private static final int[] FIRST_OF_DIAL = {0, 5, 0, 0, 50, 0, 0, 0, 0, 0, 100, 100, 100, 100};
    private static final int[] LEAST_OF_DIAL = {0, 0, 0, 0, 1, 0, 0, 0, 0, 0, 0, 0, 0, 0};
    private static final int[] MOST_OF_DIAL = {19, 60, 999, 9999, 999, 2, 9, 2, 0, 0, 100, 100, 100, 100};
    private static final int BY_HOOK = 0, BY_MAGNET = 2;

    private static final int NO_STAND = 1, TIPS = 2, NO_PUSHES = 3, LIMIT = 4, ALLOWED = 5;

    /** 5 times 13: with it every vector of a DIRECTION is whole, so all is reckoned without rounding. */
    private static final int SCALE = 65;
    private static final int[] ALONG_X =
        {65, 60, 52, 39, 25, 0, -25, -39, -52, -60, -65, -60, -52, -39, -25, 0, 25, 39, 52, 60};
    private static final int[] ALONG_Y =
        {0, 25, 39, 52, 60, 65, 60, 52, 39, 25, 0, -25, -39, -52, -60, -65, -60, -52, -39, -25};

    private final Crane now;
    private final Crane kept;
    private final Crane draft;
    private final Judge judge;
    private final Route route;
    private final Tape tape;
    private final Plan thePlan;
    private final Plan otherPlan;
    private final Walk walk;
    private final Book lifts;
    private final Rows rows;
    private boolean imageTaken;

    public CranePads() {
        now = new Crane();
        kept = new Crane();
        draft = new Crane();
        judge = new Judge();
        route = new Route();
        tape = new Tape();
        thePlan = new Plan();
        otherPlan = new Plan();
        walk = new Walk();
        lifts = new Book();
        rows = new Rows();
        imageTaken = false;
    }

    // ---- what is told

    public int pad(int pad, int x, int y, int limit) {
        if (!isPad(pad)) {
            return NONE;
        }
        if (!within(x, -30, 30) || !within(y, -30, 30) || !within(limit, 0, 9999)) {
            return BAD;
        }
        now.pads.place(pad, x, y, limit);
        return now.pads.standing ? 1 : 0;
    }

    public int part(int mass, int a, int b, boolean turning) {
        if (!isMass(mass) || !within(a, -40, 40) || !within(b, -40, 40)) {
            return BAD;
        }
        if (now.parts.size >= PARTS) {
            return FULL;
        }
        return now.parts.append(mass, a, b, turning);
    }

    public int mass(int part, int v) {
        if (!now.parts.has(part)) {
            return NONE;
        }
        if (!isMass(v)) {
            return BAD;
        }
        int was = now.parts.mass[part];
        now.parts.reweigh(part, v);
        return was;
    }

    public int put(int what, int v) {
        if (!isDial(what)) {
            return NONE;
        }
        if (!fitsDial(what, v)) {
            return BAD;
        }
        int was = now.dials[what];
        now.dials[what] = v;
        return was;
    }

    public int told(int what) {
        return isDial(what) ? now.dials[what] : NONE;
    }

    public long padOf(int pad, int what) {
        if (!isPad(pad)) {
            return NO;
        }
        switch (what) {
            case 0:
                return now.pads.x[pad];
            case 1:
                return now.pads.y[pad];
            case 2:
                return now.pads.limit[pad];
            default:
                return NO;
        }
    }

    public int entry(int chart, int reach, int v) {
        if (!isChart(chart)) {
            return NONE;
        }
        if (!fitsDial(REACH, reach) || !within(v, -1, 9999)) {
            return BAD;
        }
        Chart one = now.charts[chart];
        boolean there = one.has(reach);
        if (v == -1 && !there) {
            return STATE;
        }
        if (!there && one.size >= ENTRIES) {
            return FULL;
        }
        one.write(reach, v);
        return one.size;
    }

    public int read(int chart, int reach) {
        if (!isChart(chart)) {
            return NONE;
        }
        if (!fitsDial(REACH, reach)) {
            return BAD;
        }
        return now.charts[chart].at(reach);
    }

    public int allowed(int direction, int reach) {
        if (!fitsDial(DIRECTION, direction)) {
            return NONE;
        }
        if (!fitsDial(REACH, reach)) {
            return BAD;
        }
        return now.mayHang(direction, reach);
    }

    // ---- as it is

    public int weight() {
        return now.wholeMass();
    }

    public long centre(int what, int part) {
        judge.gather(now);
        if (!within(what, 0, 1) || !isSide(part) || judge.w == 0) {
            return NO;
        }
        return inLowestTerms(what == 0 ? judge.mx : judge.my, judge.w, part);
    }

    public long moment(int edge, int part) {
        if (!isPad(edge) || !isSide(part)) {
            return NO;
        }
        judge.gather(now);
        return inLowestTerms(judge.about(now.pads, edge, next(edge)), SCALE, part);
    }

    public long factor(int edge, int part) {
        if (!isPad(edge) || !isSide(part)) {
            return NO;
        }
        judge.splitMoments(now, edge);
        if (judge.tipping == 0) {
            return NO;
        }
        return inLowestTerms(judge.holding, judge.tipping, part);
    }

    public long push(int pad, int part) {
        if (!isPad(pad) || !isSide(part) || !judge.finds(now)) {
            return NO;
        }
        return inLowestTerms(judge.share[pad], judge.below, part);
    }

    public int lifted() {
        return judge.finds(now) ? judge.inTheAir : STATE;
    }

    public int mat(int pad) {
        if (!isPad(pad)) {
            return NONE;
        }
        if (!judge.finds(now)) {
            return STATE;
        }
        for (int side = 1; side <= SIDES; side++) {
            long bears = (long) side * side * now.dials[GROUND];
            if (bears * judge.below >= judge.share[pad]) {
                return side;
            }
        }
        return NOT_SO;
    }

    public int why() {
        return judge.verdict(now);
    }

    // ---- in thought

    public int most() {
        draft.become(now);
        for (int load = LOADS - 1; load >= 0; load--) {
            draft.dials[LOAD] = load;
            if (judge.verdict(draft) == 0) {
                return load;
            }
        }
        return NOT_SO;
    }

    public int where(int reach) {
        if (!fitsDial(REACH, reach)) {
            return BAD;
        }
        draft.become(now);
        return judge.lawfulDirections(draft, reach);
    }

    public int farthest(int direction) {
        if (!fitsDial(DIRECTION, direction)) {
            return NONE;
        }
        draft.become(now);
        draft.dials[DIRECTION] = direction;
        for (int reach = REACHES - 1; reach >= 0; reach--) {
            draft.dials[REACH] = reach;
            if (judge.verdict(draft) == 0) {
                return reach;
            }
        }
        return NOT_SO;
    }

    public int way(int direction, int reach) {
        if (!fitsDial(DIRECTION, direction)) {
            return NONE;
        }
        if (!fitsDial(REACH, reach)) {
            return BAD;
        }
        draft.become(now);
        for (int r = 0; r < REACHES; r++) {
            route.lawful[r] = judge.lawfulDirections(draft, r);
        }
        route.begin(now.dials[DIRECTION], now.dials[REACH]);
        return route.movesTo(direction, reach);
    }

    public int ballast(int part) {
        if (!now.parts.has(part)) {
            return NONE;
        }
        draft.become(now);
        for (int v = 1; v <= MASSES; v++) {
            draft.parts.reweigh(part, v);
            if (judge.verdict(draft) == 0) {
                return v;
            }
        }
        return NOT_SO;
    }

    // ---- plans

    public int feed(int letter) {
        if (!within(letter, 1, 127)) {
            return BAD;
        }
        if (tape.size >= TAPE_SIZE) {
            return FULL;
        }
        return tape.append(letter);
    }

    public int clear() {
        int had = tape.size;
        tape.size = 0;
        return had;
    }

    public int plan() {
        int fault = tape.readInto(otherPlan);
        tape.size = 0;
        if (fault >= 0) {
            return TEXT_FAULT - fault;
        }
        thePlan.become(otherPlan);
        return thePlan.size;
    }

    public int checked(int what) {
        if (!within(what, 0, 3)) {
            return NONE;
        }
        if (thePlan.size == 0) {
            return STATE;
        }
        draft.become(now);
        walk.go(thePlan, draft, judge);
        switch (what) {
            case 0:
                return walk.moments;
            case 1:
                return walk.firstUnlawful;
            case 2:
                return walk.unlawfulStep;
            default:
                return walk.reason;
        }
    }

    public long spare() {
        if (thePlan.size == 0) {
            return NO;
        }
        draft.become(now);
        walk.go(thePlan, draft, judge);
        return walk.leastSpare;
    }

    public int done() {
        if (thePlan.size == 0) {
            return STATE;
        }
        draft.become(now);
        walk.go(thePlan, draft, judge);
        if (walk.reason != 0) {
            return STATE;
        }
        now.become(draft);
        return walk.moments;
    }

    public int backward() {
        if (thePlan.size == 0 || !thePlan.onlyMoves()) {
            return STATE;
        }
        draft.become(now);
        otherPlan.turnBack(thePlan, draft);
        walk.go(otherPlan, draft, judge);
        return walk.reason == 0 ? 1 : 0;
    }

    // ---- seen, the book

    public int seen(int list, int i, int what) {
        if (!isList(list) || !within(what, 0, 1)) {
            return NONE;
        }
        if (!rows.holds(list)) {
            return NOTHING;
        }
        if (i < 0 || i > rows.length[list] - PADS) {
            return BEYOND;
        }
        draft.become(now);
        int found = 0;
        int least = NOT_SO;
        for (int load = 0; load < LOADS; load++) {
            draft.dials[LOAD] = load;
            if (judge.finds(draft) && judge.sharesAre(rows.row[list], i)) {
                least = found == 0 ? load : least;
                found++;
            }
        }
        return what == 0 ? found : least;
    }

    public int lay(int list, int i) {
        if (!isList(list)) {
            return NONE;
        }
        if (!rows.holds(list)) {
            return NOTHING;
        }
        if (!judge.finds(now)) {
            return STATE;
        }
        if (i < 0) {
            return BEYOND;
        }
        for (int pad = 0; pad < PADS; pad++) {
            if (i >= rows.length[list] - pad) {
                return BEYOND;
            }
            rows.row[list][i + pad] = judge.wholeShare(pad);
        }
        return PADS;
    }

    public int book() {
        return lifts.keep(now.dials[LOAD], now.dials[DIRECTION], now.dials[REACH]);
    }

    public int booked(int i, int what) {
        if (i < 0 || i >= lifts.size) {
            return NONE;
        }
        switch (what) {
            case 0:
                return lifts.load[i];
            case 1:
                return lifts.direction[i];
            case 2:
                return lifts.reach[i];
            case 3:
                return mayBeAsBooked(i) ? 1 : 0;
            default:
                return NONE;
        }
    }

    public int heaviest() {
        return lifts.withMost();
    }

    // ---- rows, the image

    public int list(int list, int n) {
        if (!isList(list)) {
            return NONE;
        }
        if (n > LONGEST_LIST) {
            return BAD;
        }
        if (n < 0) {
            return BELOW;
        }
        rows.begin(list, n);
        return 1;
    }

    public int set(int list, int i, long v) {
        if (!isList(list)) {
            return NONE;
        }
        if (!rows.holds(list)) {
            return NOTHING;
        }
        if (!rows.hasPlace(list, i)) {
            return BEYOND;
        }
        rows.row[list][i] = v;
        return 1;
    }

    public long get(int list, int i) {
        if (!isList(list) || !rows.hasPlace(list, i)) {
            return NO;
        }
        return rows.row[list][i];
    }

    public int count(int what) {
        switch (what) {
            case 0:
                return now.parts.size;
            case 1:
                return tape.size;
            case 2:
                return thePlan.size;
            case 3:
            case 4:
            case 5:
                return now.charts[what - 3].size;
            case 6:
                return now.pads.standing ? 1 : 0;
            default:
                return NONE;
        }
    }

    public int image() {
        kept.become(now);
        imageTaken = true;
        return kept.parts.size;
    }

    public int undo() {
        if (!imageTaken) {
            return STATE;
        }
        now.become(kept);
        return now.parts.size;
    }

    // ---- helpers

    private boolean mayBeAsBooked(int i) {
        draft.become(now);
        draft.dials[LOAD] = lifts.load[i];
        draft.dials[DIRECTION] = lifts.direction[i];
        draft.dials[REACH] = lifts.reach[i];
        return judge.verdict(draft) == 0;
    }

    private static boolean within(int v, int least, int greatest) {
        return v >= least && v <= greatest;
    }

    private static boolean isPad(int pad) {
        return within(pad, 0, PADS - 1);
    }

    private static boolean isChart(int chart) {
        return within(chart, 0, CHARTS - 1);
    }

    private static boolean isList(int list) {
        return within(list, 0, LISTS - 1);
    }

    private static boolean isMass(int mass) {
        return within(mass, 1, MASSES);
    }

    private static boolean isDial(int what) {
        return within(what, DIRECTION, MANNER) || within(what, FIRST_QUARTER, DIALS - 1);
    }

    private static boolean fitsDial(int dial, int v) {
        return within(v, LEAST_OF_DIAL[dial], MOST_OF_DIAL[dial]);
    }

    /** Whether this asks for what is above (0) or below (1) a fraction's line. */
    private static boolean isSide(int part) {
        return within(part, 0, 1);
    }

    private static int next(int pad) {
        return (pad + 1) % PADS;
    }

    /** The side of above / below that is asked for; below is above 0. */
    private static long inLowestTerms(long above, long below, int side) {
        long shared = commonDivisor(Math.abs(above), below);
        if (shared == 0) {
            return NO;
        }
        return (side == 0 ? above : below) / shared;
    }

    private static long commonDivisor(long a, long b) {
        long greater = a;
        long less = b;
        // two longs need fewer than a hundred turns
        for (int turn = 0; turn < 200 && less != 0; turn++) {
            long rest = greater % less;
            greater = less;
            less = rest;
        }
        return greater;
    }

    /** Where the four PADS are, with what the plane through their PUSHES needs of them. */
    private static final class Pads {
        final int[] x = {10, -10, -10, 10};
        final int[] y = {10, 10, -10, -10};
        final int[] limit = {9999, 9999, 9999, 9999};
        boolean standing;
        /** Cofactors of the matrix of sums over the PADS of (1, X, Y) times (1, X, Y), and its determinant. */
        long one;
        long oneX;
        long oneY;
        long xx;
        long xy;
        long yy;
        long determinant;

        Pads() {
            measure();
        }

        void place(int pad, int newX, int newY, int newLimit) {
            x[pad] = newX;
            y[pad] = newY;
            limit[pad] = newLimit;
            measure();
        }

        void placeAs(Pads other) {
            System.arraycopy(other.x, 0, x, 0, PADS);
            System.arraycopy(other.y, 0, y, 0, PADS);
            System.arraycopy(other.limit, 0, limit, 0, PADS);
            standing = other.standing;
            one = other.one;
            oneX = other.oneX;
            oneY = other.oneY;
            xx = other.xx;
            xy = other.xy;
            yy = other.yy;
            determinant = other.determinant;
        }

        /** Twice what the triangle of pad, the next and the one behind that spans to the left. */
        long span(int pad) {
            int second = next(pad);
            int third = next(second);
            return (long) (x[second] - x[pad]) * (y[third] - y[pad]) - (long) (y[second] - y[pad]) * (x[third] - x[pad]);
        }

        private void measure() {
            standing = true;
            long sumX = 0;
            long sumY = 0;
            long sumXX = 0;
            long sumXY = 0;
            long sumYY = 0;
            for (int pad = 0; pad < PADS; pad++) {
                standing = standing && span(pad) > 0;
                sumX += x[pad];
                sumY += y[pad];
                sumXX += (long) x[pad] * x[pad];
                sumXY += (long) x[pad] * y[pad];
                sumYY += (long) y[pad] * y[pad];
            }
            one = sumXX * sumYY - sumXY * sumXY;
            oneX = sumXY * sumY - sumX * sumYY;
            oneY = sumX * sumXY - sumXX * sumY;
            xx = PADS * sumYY - sumY * sumY;
            xy = sumX * sumY - PADS * sumXY;
            yy = PADS * sumXX - sumX * sumX;
            determinant = PADS * one + sumX * oneX + sumY * oneY;
        }
    }

    /** The PARTS, with sums kept so that no DIRECTION needs a look at each of them. */
    private static final class Parts {
        final int[] mass = new int[PARTS];
        final int[] a = new int[PARTS];
        final int[] b = new int[PARTS];
        final boolean[] turning = new boolean[PARTS];
        int size;
        int total;
        /** MASS times A and times B of those that stay. */
        int stayA;
        int stayB;
        /** MASS times A and times B of those that are TURNING. */
        int turnA;
        int turnB;

        boolean has(int part) {
            return part >= 0 && part < size;
        }

        int append(int newMass, int newA, int newB, boolean turns) {
            int part = size;
            mass[part] = 0;
            a[part] = newA;
            b[part] = newB;
            turning[part] = turns;
            size++;
            reweigh(part, newMass);
            return part;
        }

        void reweigh(int part, int v) {
            int more = v - mass[part];
            mass[part] = v;
            total += more;
            if (turning[part]) {
                turnA += more * a[part];
                turnB += more * b[part];
            } else {
                stayA += more * a[part];
                stayB += more * b[part];
            }
        }

        void weighAs(Parts other) {
            System.arraycopy(other.mass, 0, mass, 0, PARTS);
            System.arraycopy(other.a, 0, a, 0, PARTS);
            System.arraycopy(other.b, 0, b, 0, PARTS);
            // not by arraycopy, which LANGUAGE.md may mean for arrays of numbers alone
            for (int part = 0; part < PARTS; part++) {
                turning[part] = other.turning[part];
            }
            size = other.size;
            total = other.total;
            stayA = other.stayA;
            stayB = other.stayB;
            turnA = other.turnA;
            turnB = other.turnB;
        }
    }

    /** A CHART: at each REACH what its ENTRY says, or NONE. */
    private static final class Chart {
        final int[] said = new int[REACHES];
        int size;

        Chart() {
            Arrays.fill(said, NONE);
        }

        boolean has(int reach) {
            return said[reach] != NONE;
        }

        /** v may be NONE: the ENTRY goes. */
        void write(int reach, int v) {
            size -= has(reach) ? 1 : 0;
            said[reach] = v;
            size += has(reach) ? 1 : 0;
        }

        int at(int reach) {
            int behind = reach;
            while (behind < REACHES && said[behind] == NONE) {
                behind++;
            }
            if (behind == REACHES) {
                return 0;
            }
            int ahead = reach;
            while (ahead >= 0 && said[ahead] == NONE) {
                ahead--;
            }
            if (ahead < 0 || ahead == behind) {
                return said[behind];
            }
            return (said[ahead] * (behind - reach) + said[behind] * (reach - ahead)) / (behind - ahead);
        }

        void readAs(Chart other) {
            System.arraycopy(other.said, 0, said, 0, REACHES);
            size = other.size;
        }
    }

    /** All of the document's first part: what THE IMAGE keeps, and what thoughts are tried on. */
    private static final class Crane {
        final Pads pads;
        final Parts parts;
        final Chart[] charts;
        final int[] dials;

        Crane() {
            pads = new Pads();
            parts = new Parts();
            charts = new Chart[CHARTS];
            for (int chart = 0; chart < CHARTS; chart++) {
                charts[chart] = new Chart();
            }
            dials = FIRST_OF_DIAL.clone();
        }

        void become(Crane other) {
            pads.placeAs(other.pads);
            parts.weighAs(other.parts);
            for (int chart = 0; chart < CHARTS; chart++) {
                charts[chart].readAs(other.charts[chart]);
            }
            System.arraycopy(other.dials, 0, dials, 0, DIALS);
        }

        int hanging() {
            return dials[LOAD] + dials[HOOK];
        }

        int wholeMass() {
            return parts.total + hanging();
        }

        int mayHang(int direction, int reach) {
            int wind = dials[WIND];
            int may = charts[dials[CHART]].at(reach) * (100 - 5 * wind) / 100;
            if (dials[MANNER] != BY_HOOK) {
                may = may * 3 / 4;
            }
            if (dials[MANNER] == BY_MAGNET) {
                may = Math.max(0, may - wind);
            }
            return may * dials[FIRST_QUARTER + direction / QUARTER_SIZE] / 100;
        }

        /** What more may hang as it is; below 0, if too much does. */
        int room() {
            return mayHang(dials[DIRECTION], dials[REACH]) - hanging();
        }

        /** Brings a dial one nearer to its goal: DIRECTION the shorter way round, of like ones on. */
        void approach(int dial, int goal) {
            int at = dials[dial];
            if (dial == DIRECTION) {
                boolean on = Math.floorMod(goal - at, DIRECTIONS) <= DIRECTIONS / 2;
                dials[dial] = Math.floorMod(on ? at + 1 : at - 1, DIRECTIONS);
            } else {
                dials[dial] = goal > at ? at + 1 : at - 1;
            }
        }
    }

    /** Weighs a crane. Its fields hold what was found of the one that was looked at last. */
    private static final class Judge {
        /** SCALE times W, and SCALE times all MASS times place. */
        long w;
        long mx;
        long my;
        /** PUSH of a PAD is its share by what is below the line. */
        final long[] share = new long[PADS];
        long below;
        int inTheAir;
        /** Both SCALE times as much. */
        long holding;
        long tipping;

        /** WHY. */
        int verdict(Crane crane) {
            if (!crane.pads.standing) {
                return NO_STAND;
            }
            gather(crane);
            if (w == 0 || tipsOver(crane.pads)) {
                return TIPS;
            }
            shareByPlane(crane.pads);
            inTheAir = lowestBelowNothing();
            if (inTheAir != NOT_SO && !shareByThree(crane.pads, inTheAir)) {
                return NO_PUSHES;
            }
            if (isOverLimit(crane.pads)) {
                return LIMIT;
            }
            return crane.room() < 0 ? ALLOWED : 0;
        }

        /** Whether there are PUSHES; if so, share, below and inTheAir tell them. */
        boolean finds(Crane crane) {
            int reason = verdict(crane);
            return reason == 0 || reason > NO_PUSHES;
        }

        /** The DIRECTIONS (bits) at which it MAY at a REACH; both dials of the crane are turned for it. */
        int lawfulDirections(Crane crane, int reach) {
            int bits = 0;
            crane.dials[REACH] = reach;
            for (int direction = 0; direction < DIRECTIONS; direction++) {
                crane.dials[DIRECTION] = direction;
                if (verdict(crane) == 0) {
                    bits |= 1 << direction;
                }
            }
            return bits;
        }

        void gather(Crane crane) {
            Parts parts = crane.parts;
            long c = ALONG_X[crane.dials[DIRECTION]];
            long s = ALONG_Y[crane.dials[DIRECTION]];
            // what hangs is like a PART that turns, with REACH for its A and 0 for its B
            long along = parts.turnA + (long) crane.hanging() * crane.dials[REACH];
            long across = parts.turnB;
            w = (long) SCALE * crane.wholeMass();
            mx = (long) SCALE * parts.stayA + c * along - s * across;
            my = (long) SCALE * parts.stayB + s * along + c * across;
        }

        /** SCALE times the MOMENT of ALL about the line from one PAD to another. */
        long about(Pads pads, int from, int to) {
            long edgeX = pads.x[to] - pads.x[from];
            long edgeY = pads.y[to] - pads.y[from];
            return edgeX * (my - pads.y[from] * w) - edgeY * (mx - pads.x[from] * w);
        }

        boolean sharesAre(long[] row, int from) {
            for (int pad = 0; pad < PADS; pad++) {
                if (row[from + pad] != wholeShare(pad)) {
                    return false;
                }
            }
            return true;
        }

        long wholeShare(int pad) {
            return below > 0 ? share[pad] / below : 0;
        }

        /** HOLDING and TIPPING need each thing alone, not the sums. */
        void splitMoments(Crane crane, int edge) {
            holding = 0;
            tipping = 0;
            Parts parts = crane.parts;
            for (int part = 0; part < parts.size; part++) {
                int direction = parts.turning[part] ? crane.dials[DIRECTION] : 0;
                long c = ALONG_X[direction];
                long s = ALONG_Y[direction];
                long x = c * parts.a[part] - s * parts.b[part];
                long y = s * parts.a[part] + c * parts.b[part];
                addMoment(crane.pads, edge, parts.mass[part], x, y);
            }
            long reach = crane.dials[REACH];
            long x = reach * ALONG_X[crane.dials[DIRECTION]];
            long y = reach * ALONG_Y[crane.dials[DIRECTION]];
            addMoment(crane.pads, edge, crane.hanging(), x, y);
        }

        private void addMoment(Pads pads, int edge, int mass, long x, long y) {
            int to = next(edge);
            long edgeX = pads.x[to] - pads.x[edge];
            long edgeY = pads.y[to] - pads.y[edge];
            long spanned = edgeX * (y - SCALE * pads.y[edge]) - edgeY * (x - SCALE * pads.x[edge]);
            if (spanned > 0) {
                holding += mass * spanned;
            } else {
                tipping -= mass * spanned;
            }
        }

        private boolean tipsOver(Pads pads) {
            for (int edge = 0; edge < PADS; edge++) {
                if (about(pads, edge, next(edge)) < 0) {
                    return true;
                }
            }
            return false;
        }

        private boolean isOverLimit(Pads pads) {
            for (int pad = 0; pad < PADS; pad++) {
                if (share[pad] > pads.limit[pad] * below) {
                    return true;
                }
            }
            return false;
        }

        /** The PAD with the least share, if that is below 0. */
        private int lowestBelowNothing() {
            int lowest = NOT_SO;
            long least = 0;
            for (int pad = 0; pad < PADS; pad++) {
                if (share[pad] < least) {
                    least = share[pad];
                    lowest = pad;
                }
            }
            return lowest;
        }

        /** Cramer's rule for a, b, c of the plane a + b X + c Y. */
        private void shareByPlane(Pads pads) {
            long a = pads.one * w + pads.oneX * mx + pads.oneY * my;
            long b = pads.oneX * w + pads.xx * mx + pads.xy * my;
            long c = pads.oneY * w + pads.xy * mx + pads.yy * my;
            for (int pad = 0; pad < PADS; pad++) {
                share[pad] = a + b * pads.x[pad] + c * pads.y[pad];
            }
            below = SCALE * pads.determinant;
        }

        /** Each of three PADS bears the MOMENT about the line of the other two, by what the triangle spans. */
        private boolean shareByThree(Pads pads, int up) {
            int first = next(up);
            int second = next(first);
            int third = next(second);
            share[up] = 0;
            share[first] = about(pads, second, third);
            share[second] = about(pads, third, first);
            share[third] = about(pads, first, second);
            below = SCALE * pads.span(first);
            return share[first] >= 0 && share[second] >= 0 && share[third] >= 0;
        }
    }

    /** Spreads over DIRECTIONS (bits of a row) and REACHES (rows), one MOVE at a time. */
    private static final class Route {
        final int[] lawful = new int[REACHES];
        private final int[] reached = new int[REACHES];
        private final int[] grown = new int[REACHES];

        void begin(int direction, int reach) {
            Arrays.fill(reached, 0);
            reached[reach] = lawful[reach] & (1 << direction);
        }

        int movesTo(int direction, int reach) {
            boolean more = true;
            for (int moves = 0; more && moves <= DIRECTIONS * REACHES; moves++) {
                if ((reached[reach] & (1 << direction)) != 0) {
                    return moves;
                }
                more = spread();
            }
            return NOT_SO;
        }

        /** Whether any place is new. */
        private boolean spread() {
            boolean more = false;
            for (int r = 0; r < REACHES; r++) {
                int row = reached[r];
                // bits above DIRECTION 19 are never lawful, so they fall away below
                int on = (row << 1) | (row >> (DIRECTIONS - 1));
                int back = (row >> 1) | (row << (DIRECTIONS - 1));
                int beside = (r > 0 ? reached[r - 1] : 0) | (r < REACHES - 1 ? reached[r + 1] : 0);
                grown[r] = (row | on | back | beside) & lawful[r];
                more = more || grown[r] != row;
            }
            System.arraycopy(grown, 0, reached, 0, REACHES);
            return more;
        }
    }

    /** STEPS, each a dial and what it becomes. None: there is no PLAN. */
    private static final class Plan {
        final int[] dial = new int[STEPS];
        final int[] goal = new int[STEPS];
        int size;

        void append(int newDial, int newGoal) {
            if (size < STEPS) {
                dial[size] = newDial;
                goal[size] = newGoal;
                size++;
            }
        }

        void become(Plan other) {
            System.arraycopy(other.dial, 0, dial, 0, STEPS);
            System.arraycopy(other.goal, 0, goal, 0, STEPS);
            size = other.size;
        }

        boolean onlyMoves() {
            for (int step = 0; step < size; step++) {
                if (!isMove(step)) {
                    return false;
                }
            }
            return true;
        }

        boolean isMove(int step) {
            return dial[step] == DIRECTION || dial[step] == REACH;
        }

        /** Becomes the way back of a plan from how it ends; the crane becomes what it is there. */
        void turnBack(Plan forth, Crane crane) {
            size = forth.size;
            for (int step = 0; step < size; step++) {
                int moved = forth.dial[step];
                dial[size - 1 - step] = moved;
                goal[size - 1 - step] = crane.dials[moved];
                crane.dials[moved] = forth.goal[step];
            }
        }
    }

    /** THE TAPE, and the reading of it. */
    private static final class Tape {
        private static final int READ = -1;
        private final byte[] bytes = new byte[TAPE_SIZE];
        int size;
        private int at;

        int append(int letter) {
            bytes[size] = (byte) letter;
            size++;
            return size;
        }

        /** The FAULT, or READ. */
        int readInto(Plan plan) {
            plan.size = 0;
            at = 0;
            for (int step = 0; step <= TAPE_SIZE; step++) {
                int fault = readStep(plan);
                if (fault != READ) {
                    return fault;
                }
                if (at == size) {
                    return READ;
                }
                if (bytes[at] != SEMICOLON) {
                    return at;
                }
                at++;
            }
            return at;
        }

        private int readStep(Plan plan) {
            int begin = at;
            while (at < size && bytes[at] >= 'a' && bytes[at] <= 'z') {
                at++;
            }
            if (spells(begin, "set")) {
                plan.append(LOAD, 0);
                return READ;
            }
            int dial = dialOfWord(begin);
            if (dial == NONE) {
                return begin;
            }
            if (at == size || bytes[at] != BLANK) {
                return at;
            }
            at++;
            return readNumber(plan, dial);
        }

        private int readNumber(Plan plan, int dial) {
            int begin = at;
            int end = Math.min(size, begin + FIGURES);
            int number = 0;
            while (at < end && bytes[at] >= '0' && bytes[at] <= '9') {
                number = number * 10 + bytes[at] - '0';
                at++;
            }
            if (at == begin || !fitsDial(dial, number)) {
                return begin;
            }
            plan.append(dial, number);
            return READ;
        }

        private int dialOfWord(int begin) {
            if (spells(begin, "take")) {
                return LOAD;
            }
            if (spells(begin, "slew")) {
                return DIRECTION;
            }
            if (spells(begin, "reach")) {
                return REACH;
            }
            return spells(begin, "wind") ? WIND : NONE;
        }

        /** Whether the bytes from begin up to where the reading is are this word. */
        private boolean spells(int begin, String word) {
            if (at - begin != word.length()) {
                return false;
            }
            for (int i = 0; i < word.length(); i++) {
                if (bytes[begin + i] != word.charAt(i)) {
                    return false;
                }
            }
            return true;
        }
    }

    /** Goes through the MOMENTS of a PLAN and remembers what was met. */
    private static final class Walk {
        int moments;
        int firstUnlawful;
        int unlawfulStep;
        int reason;
        int leastSpare;

        /** The crane becomes what it is at the end. */
        void go(Plan plan, Crane crane, Judge judge) {
            moments = 0;
            firstUnlawful = NOT_SO;
            unlawfulStep = NOT_SO;
            reason = 0;
            leastSpare = Integer.MAX_VALUE;
            meet(NOT_SO, crane, judge);
            for (int step = 0; step < plan.size; step++) {
                int dial = plan.dial[step];
                int goal = plan.goal[step];
                if (plan.isMove(step)) {
                    for (int n = 0; n < REACHES && crane.dials[dial] != goal; n++) {
                        crane.approach(dial, goal);
                        meet(step, crane, judge);
                    }
                } else {
                    crane.dials[dial] = goal;
                    meet(step, crane, judge);
                }
            }
        }

        private void meet(int step, Crane crane, Judge judge) {
            int found = judge.verdict(crane);
            if (found != 0 && reason == 0) {
                firstUnlawful = moments;
                unlawfulStep = step;
                reason = found;
            }
            leastSpare = Math.min(leastSpare, crane.room());
            moments++;
        }
    }

    /** The BOOK, the eldest first. */
    private static final class Book {
        final int[] load = new int[LIFTS];
        final int[] direction = new int[LIFTS];
        final int[] reach = new int[LIFTS];
        int size;

        int keep(int newLoad, int newDirection, int newReach) {
            if (size == LIFTS) {
                dropEldest();
            }
            load[size] = newLoad;
            direction[size] = newDirection;
            reach[size] = newReach;
            size++;
            return size;
        }

        private void dropEldest() {
            size--;
            System.arraycopy(load, 1, load, 0, size);
            System.arraycopy(direction, 1, direction, 0, size);
            System.arraycopy(reach, 1, reach, 0, size);
        }

        int withMost() {
            int best = NOT_SO;
            int greatest = -1;
            for (int i = 0; i < size; i++) {
                if (load[i] * reach[i] > greatest) {
                    greatest = load[i] * reach[i];
                    best = i;
                }
            }
            return best;
        }
    }

    /** The LISTS. */
    private static final class Rows {
        final long[][] row = new long[LISTS][LONGEST_LIST];
        /** NONE: the LIST holds nothing. */
        final int[] length = {NONE, NONE, NONE, NONE};

        boolean holds(int list) {
            return length[list] != NONE;
        }

        boolean hasPlace(int list, int i) {
            return i >= 0 && i < length[list];
        }

        void begin(int list, int n) {
            Arrays.fill(row[list], 0);
            length[list] = n;
        }
    }
}
