/** Promises 11 to 18, and what "Terms" says of them: every sentence that names a boundary. */
public final class WeighedBoundsTest {
    private static final Due due = new Due();
    private static final int[] NO_PAD = {-1, 4, Due.LEAST_INT, Due.GREATEST_INT};
    private static final int[] NO_SIDE = {-1, 2, Due.LEAST_INT, Due.GREATEST_INT};

    /** Which way is out over EDGE k of the PADS as they are at first. */
    private static final int[] OVER_X = {0, -1, 0, 1};
    private static final int[] OVER_Y = {1, 0, -1, 0};

    private static CranePads withPart(int mass, int a, int b) {
        CranePads x = new CranePads();
        x.part(mass, a, b, false);
        return x;
    }

    // ---- promise 11

    private static void theLeastAndTheGreatestWeight() {
        CranePads x = new CranePads();
        due.is("promise 11: nothing weighs 0", x.weight(), 0);
        x.put(1, 60);
        due.is("promise 11: REACH weighs nothing", x.weight(), 0);
        x.put(2, 1);
        due.is("promise 11: the HOOK alone", x.weight(), 1);
        x.put(2, 0);
        x.put(3, 1);
        due.is("promise 11: the LOAD alone", x.weight(), 1);
        for (int i = 0; i < 8; i++) {
            x.part(999, 40, -40, i % 2 == 0);
        }
        x.put(2, 999);
        x.put(3, 9999);
        due.is("promise 11: the greatest W", x.weight(), 8 * 999 + 999 + 9999);
    }

    // ---- promise 12, DIRECTIONS

    /** 65 times c of a DIRECTION; s is that of the DIRECTION five back. */
    private static int along(int direction) {
        int[] c = {65, 60, 52, 39, 25};
        int[] s = {0, 25, 39, 52, 60};
        int i = direction % 5;
        switch (direction / 5 % 4) {
            case 0:
                return c[i];
            case 1:
                return -s[i];
            case 2:
                return -c[i];
            default:
                return s[i];
        }
    }

    private static void everyDirectionOfAPartAndOfWhatHangs() {
        CranePads x = new CranePads();
        x.part(7, 3, -2, true);
        CranePads y = new CranePads();
        y.put(1, 60);
        y.put(2, 3);
        CranePads z = new CranePads();
        z.part(7, 3, -2, false);
        for (int d = 0; d < 20; d++) {
            long c = along(d);
            long s = along(d + 15);
            x.put(0, d);
            y.put(0, d);
            z.put(0, d);
            String where = " at DIRECTION " + d;
            due.fraction("promise 12: X of a TURNING PART" + where, x.centre(0, 0), x.centre(0, 1), 3 * c + 2 * s, 65);
            due.fraction("promise 12: Y of a TURNING PART" + where, x.centre(1, 0), x.centre(1, 1), 3 * s - 2 * c, 65);
            due.fraction("promise 12: X of the HOOK" + where, y.centre(0, 0), y.centre(0, 1), 60 * c, 65);
            due.fraction("promise 12: Y of the HOOK" + where, y.centre(1, 0), y.centre(1, 1), 60 * s, 65);
            due.fraction("promise 12: X of a PART that stays" + where, z.centre(0, 0), z.centre(0, 1), 3, 1);
            due.fraction("promise 12: Y of a PART that stays" + where, z.centre(1, 0), z.centre(1, 1), -2, 1);
        }
    }

    private static void noCentreIfNothingWeighs() {
        CranePads x = new CranePads();
        for (int what = 0; what < 2; what++) {
            for (int part = 0; part < 2; part++) {
                due.is("promise 12: none, W is 0", x.centre(what, part), Due.NO);
            }
        }
        x.put(2, 1);
        x.put(1, 0);
        due.fraction("promise 12: W is 1, REACH 0", x.centre(0, 0), x.centre(0, 1), 0, 1);
        x.pad(0, -30, -30, 0);
        due.fraction("promise 12: it needn't STAND", x.centre(1, 0), x.centre(1, 1), 0, 1);
    }

    private static void theFarthestCentre() {
        CranePads x = new CranePads();
        x.put(1, 60);
        x.put(3, 9999);
        due.fraction("promise 12: the LOAD alone, at 60", x.centre(0, 0), x.centre(0, 1), 60, 1);
        x.put(0, 10);
        due.fraction("promise 12: the LOAD alone, at -60", x.centre(0, 0), x.centre(0, 1), -60, 1);
        x.part(1, 40, 0, false);
        due.fraction("promise 12: below 0 above the line", x.centre(0, 0), x.centre(0, 1), 40 - 60 * 9999, 10000);
        due.fraction("promise 12: nought is 0 by 1", x.centre(1, 0), x.centre(1, 1), 0, 1);
    }

    private static void centreRefuses() {
        CranePads x = withPart(3, 1, 2);
        for (int no : NO_SIDE) {
            due.is("promise 12: what " + no, x.centre(no, 0), Due.NO);
            due.is("promise 12: part " + no, x.centre(0, no), Due.NO);
            due.is("promise 12: what and part " + no, x.centre(no, no), Due.NO);
        }
    }

    // ---- promise 13

    private static void everyEdgeGoesRound() {
        CranePads x = withPart(5, 1, 2);
        x.pad(0, 20, 10, 9999);
        x.pad(1, -10, 15, 9999);
        x.pad(2, -12, -10, 9999);
        x.pad(3, 13, -14, 9999);
        due.fraction("promise 13: EDGE 0, PAD 0 to PAD 1", x.moment(0, 0), x.moment(0, 1), 5 * 335, 1);
        due.fraction("promise 13: EDGE 1, PAD 1 to PAD 2", x.moment(1, 0), x.moment(1, 1), 5 * 301, 1);
        due.fraction("promise 13: EDGE 2, PAD 2 to PAD 3", x.moment(2, 0), x.moment(2, 1), 5 * 352, 1);
        due.fraction("promise 13: EDGE 3, PAD 3 to PAD 0, round", x.moment(3, 0), x.moment(3, 1), 5 * 400, 1);
    }

    private static void momentsAboutNought() {
        for (int edge = 0; edge < 4; edge++) {
            CranePads x = new CranePads();
            due.fraction("promise 13: W is 0", x.moment(edge, 0), x.moment(edge, 1), 0, 1);
            x.part(3, 10 * OVER_X[edge], 10 * OVER_Y[edge], false);
            due.fraction("promise 13: on EDGE " + edge, x.moment(edge, 0), x.moment(edge, 1), 0, 1);
            x.part(4, 11 * OVER_X[edge], 11 * OVER_Y[edge], false);
            due.fraction("promise 13: beyond EDGE " + edge, x.moment(edge, 0), x.moment(edge, 1), -80, 1);
            x.part(5, 9 * OVER_X[edge], 9 * OVER_Y[edge], false);
            due.fraction("promise 13: added up", x.moment(edge, 0), x.moment(edge, 1), 20, 1);
        }
    }

    private static void theGreatestMoments() {
        CranePads x = new CranePads();
        x.pad(0, 30, 30, 9999);
        x.pad(1, -30, 30, 9999);
        x.pad(2, -30, -30, 9999);
        x.pad(3, 30, -30, 9999);
        for (int i = 0; i < 8; i++) {
            x.part(999, 40, 40, false);
        }
        x.put(0, 5);
        x.put(1, 60);
        x.put(2, 999);
        x.put(3, 9999);
        due.fraction("promise 13: the least", x.moment(0, 0), x.moment(0, 1), -60 * (7992 * 10 + 10998 * 30), 1);
        due.fraction("promise 13: the greatest", x.moment(2, 0), x.moment(2, 1), 60 * (7992 * 70 + 10998 * 90), 1);
        x.put(0, 4);
        // the hook is at (300/13, 720/13)
        due.fraction("promise 13: by 13", x.moment(0, 0), x.moment(0, 1),
            -60L * (13 * 7992 * 10 + 10998 * (720 - 390)), 13);
    }

    private static void aMomentNeedsNoStanding() {
        CranePads x = withPart(2, 3, 4);
        due.is("promise 2: all PADS on a line", x.pad(0, -10, 0, 9999), 0);
        // EDGE 3 goes from (10, -10) to (-10, 0)
        due.fraction("promise 13: it needn't STAND", x.moment(3, 0), x.moment(3, 1), 2 * (-20 * 14 - 10 * -7), 1);
        x.pad(0, 10, -10, 9999);
        due.fraction("promise 13: an EDGE without length", x.moment(3, 0), x.moment(3, 1), 0, 1);
    }

    private static void momentRefuses() {
        CranePads x = withPart(3, 1, 2);
        for (int i = 0; i < 4; i++) {
            due.is("promise 13: EDGE " + NO_PAD[i], x.moment(NO_PAD[i], 0), Due.NO);
            due.is("promise 13: part " + NO_SIDE[i], x.moment(0, NO_SIDE[i]), Due.NO);
            due.is("promise 13: neither", x.moment(NO_PAD[i], NO_SIDE[i]), Due.NO);
        }
    }

    // ---- promise 14

    private static void factorOfEachEdge() {
        for (int edge = 0; edge < 4; edge++) {
            CranePads x = new CranePads();
            due.is("promise 14: W is 0, TIPPING is 0", x.factor(edge, 0), Due.NO);
            x.part(3, 10 * OVER_X[edge], 10 * OVER_Y[edge], false);
            due.is("promise 14: on EDGE " + edge + ", TIPPING is 0", x.factor(edge, 0), Due.NO);
            due.is("promise 14: on EDGE " + edge + ", TIPPING is 0", x.factor(edge, 1), Due.NO);
            x.part(4, 11 * OVER_X[edge], 11 * OVER_Y[edge], false);
            due.fraction("promise 14: HOLDING is 0", x.factor(edge, 0), x.factor(edge, 1), 0, 1);
            x.part(6, 9 * OVER_X[edge], 9 * OVER_Y[edge], false);
            due.fraction("promise 14: 6 holds, 4 tips", x.factor(edge, 0), x.factor(edge, 1), 3, 2);
        }
    }

    /** LOAD and HOOK are at DIRECTION 5, over EDGE 0 at Y 10. */
    private static void whatHasNoMassCountsForNothing() {
        CranePads x = withPart(10, 0, 0);
        x.put(0, 5);
        x.put(1, 60);
        due.is("promise 14: LOAD 0, HOOK 0", x.factor(0, 0), Due.NO);
        x.put(2, 1);
        due.fraction("promise 14: HOOK 1", x.factor(0, 0), x.factor(0, 1), 100, 50);
        x.put(3, 1);
        due.fraction("promise 14: HOOK 1, LOAD 1", x.factor(0, 0), x.factor(0, 1), 100, 100);
        x.put(2, 0);
        due.fraction("promise 14: LOAD 1", x.factor(0, 0), x.factor(0, 1), 100, 50);
        x.put(1, 10);
        due.is("promise 14: LOAD 1 on the EDGE", x.factor(0, 0), Due.NO);
        x.put(1, 9);
        due.is("promise 14: LOAD 1 ahead of the EDGE", x.factor(0, 0), Due.NO);
        x.put(1, 11);
        due.fraction("promise 14: LOAD 1 just beyond the EDGE", x.factor(0, 0), x.factor(0, 1), 100, 1);
    }

    /** A PART of 50 holds in the middle; one of 1 that is TURNING holds or tips, as DIRECTION is, about each EDGE. */
    private static void factorAtEachDirection() {
        CranePads x = withPart(50, 0, 0);
        x.part(1, 30, -20, true);
        for (int d = 0; d < 20; d++) {
            x.put(0, d);
            long c = along(d);
            long s = along(d + 15);
            long placeX = 30 * c + 20 * s;
            long placeY = 30 * s - 20 * c;
            for (int edge = 0; edge < 4; edge++) {
                long ahead = 650 - placeX * OVER_X[edge] - placeY * OVER_Y[edge];
                String what = "promise 14: DIRECTION " + d + ", EDGE " + edge;
                if (ahead >= 0) {
                    due.is(what + ", TIPPING is 0", x.factor(edge, 0), Due.NO);
                } else {
                    due.fraction(what, x.factor(edge, 0), x.factor(edge, 1), 50 * 650, -ahead);
                }
            }
        }
    }

    private static void factorOfTheHookAtEachDirection() {
        CranePads x = withPart(50, 0, 0);
        x.put(1, 40);
        x.put(2, 1);
        for (int d = 0; d < 20; d++) {
            x.put(0, d);
            for (int edge = 0; edge < 4; edge++) {
                long ahead = 650 - 40L * along(d) * OVER_X[edge] - 40L * along(d + 15) * OVER_Y[edge];
                String what = "promise 14: HOOK at DIRECTION " + d + ", EDGE " + edge;
                if (ahead >= 0) {
                    due.is(what + ", TIPPING is 0", x.factor(edge, 0), Due.NO);
                } else {
                    due.fraction(what, x.factor(edge, 0), x.factor(edge, 1), 50 * 650, -ahead);
                }
            }
        }
    }

    private static void factorRefuses() {
        CranePads x = withPart(3, 0, 20);
        for (int i = 0; i < 4; i++) {
            due.is("promise 14: EDGE " + NO_PAD[i], x.factor(NO_PAD[i], 0), Due.NO);
            due.is("promise 14: part " + NO_SIDE[i], x.factor(0, NO_SIDE[i]), Due.NO);
            due.is("promise 14: neither", x.factor(NO_PAD[i], NO_SIDE[i]), Due.NO);
        }
        due.is("promise 14: EDGE 0 is answered", x.factor(0, 0), 0);
    }

    // ---- promises 15 and 16

    private static void pushIs(String what, CranePads x, int pad, long above, long below) {
        due.fraction("promise 15: " + what, x.push(pad % 4, 0), x.push(pad % 4, 1), above, below);
    }

    /** The CENTRE lies away from PAD k; by the plane its PUSH is W / 4 times (1 less what it is away / 10). */
    private static void aPadIsLiftedOnlyBelowNought() {
        for (int k = 0; k < 4; k++) {
            int awayX = -Due.OUT_X[k];
            int awayY = -Due.OUT_Y[k];
            CranePads x = withPart(100, 4 * awayX, 5 * awayY);
            due.is("promise 16: PUSH of PAD " + k + " is above 0", x.lifted(), Due.NOT_SO);
            pushIs("PAD " + k + " has a little", x, k, 5, 2);
            CranePads y = withPart(100, 5 * awayX, 5 * awayY);
            due.is("promise 16: PUSH of PAD " + k + " is just 0", y.lifted(), Due.NOT_SO);
            pushIs("PAD " + k + " has 0", y, k, 0, 1);
            pushIs("the next has a quarter", y, k + 1, 25, 1);
            pushIs("the one across has half", y, k + 2, 50, 1);
            pushIs("the one behind, round, has a quarter", y, k + 3, 25, 1);
            CranePads z = withPart(100, 6 * awayX, 5 * awayY);
            due.is("promise 16: PUSH of PAD " + k + " would be below 0", z.lifted(), k);
            pushIs("a LIFTED one has 0", z, k, 0, 1);
            pushIs("the one across, of three", z, k + 2, 55, 1);
            pushIs("the next, of three", z, k + 1, k % 2 == 0 ? 25 : 20, 1);
            pushIs("the one behind, of three", z, k + 3, k % 2 == 0 ? 20 : 25, 1);
        }
    }

    /** PADS that are no square, each of them the one that lies farther out; the two laws and the one plane. */
    private static void theLawsOnPadsThatAreNoSquare() {
        int[][] places = {{0, 0}, {3, 1}, {-2, 4}, {-3, -3}, {4, -2}};
        for (int k = 0; k < 4; k++) {
            for (int[] place : places) {
                CranePads x = withPart(120, place[0], place[1]);
                x.pad(k, 13 * Due.OUT_X[k], 17 * Due.OUT_Y[k], 9999);
                int across = (k + 2) % 4;
                x.pad(across, 9 * Due.OUT_X[across], 8 * Due.OUT_Y[across], 9999);
                due.is("promise 16: none is LIFTED", x.lifted(), Due.NOT_SO);
                theLaws(x, place[0], place[1]);
            }
        }
    }

    private static void theLaws(CranePads x, int centreX, int centreY) {
        // brought to one line: the greatest one below it, which all the others divide
        long below = 1;
        for (int pad = 0; pad < 4; pad++) {
            below = below / commonDivisor(below, x.push(pad, 1)) * x.push(pad, 1);
        }
        long[] push = new long[4];
        long all = 0;
        long allX = 0;
        long allY = 0;
        for (int pad = 0; pad < 4; pad++) {
            push[pad] = x.push(pad, 0) * (below / x.push(pad, 1));
            all += push[pad];
            allX += push[pad] * x.padOf(pad, 0);
            allY += push[pad] * x.padOf(pad, 1);
        }
        due.is("promise 15: all are W", all, 120 * below);
        due.is("promise 15: X times PUSH", allX, 120 * below * centreX);
        due.is("promise 15: Y times PUSH", allY, 120 * below * centreY);
        due.is("promise 15: they lie in one plane", outOfPlane(x, push), 0);
    }

    /** What PAD 3 lies above or below the plane of the other three. */
    private static long outOfPlane(CranePads x, long[] push) {
        long[] dx = new long[4];
        long[] dy = new long[4];
        long[] dz = new long[4];
        for (int pad = 1; pad < 4; pad++) {
            dx[pad] = x.padOf(pad, 0) - x.padOf(0, 0);
            dy[pad] = x.padOf(pad, 1) - x.padOf(0, 1);
            dz[pad] = push[pad] - push[0];
        }
        return dx[1] * (dy[2] * dz[3] - dz[2] * dy[3]) - dy[1] * (dx[2] * dz[3] - dz[2] * dx[3])
            + dz[1] * (dx[2] * dy[3] - dy[2] * dx[3]);
    }

    private static long commonDivisor(long a, long b) {
        return b == 0 ? a : commonDivisor(b, a % b);
    }

    private static void allAboveOnePad() {
        for (int k = 0; k < 4; k++) {
            CranePads x = withPart(100, 10 * Due.OUT_X[k], 10 * Due.OUT_Y[k]);
            due.is("promise 16: all above PAD " + k + ", the one across is LIFTED", x.lifted(), (k + 2) % 4);
            for (int other = 0; other < 4; other++) {
                pushIs("all above PAD " + k, x, other, other == k ? 100 : 0, 1);
            }
        }
    }

    private static void onAnEdgeTwoBearIt() {
        for (int edge = 0; edge < 4; edge++) {
            CranePads x = withPart(100, 10 * OVER_X[edge], 10 * OVER_Y[edge]);
            due.is("promise 16: on EDGE " + edge + ", none is below 0", x.lifted(), Due.NOT_SO);
            pushIs("on EDGE " + edge, x, edge, 50, 1);
            pushIs("on EDGE " + edge, x, edge + 1, 50, 1);
            pushIs("on EDGE " + edge, x, edge + 2, 0, 1);
            pushIs("on EDGE " + edge, x, edge + 3, 0, 1);
        }
    }

    private static void noPushesAre(String what, CranePads x) {
        for (int pad = 0; pad < 4; pad++) {
            due.is("promise 15: " + what, x.push(pad, 0), Due.NO);
            due.is("promise 15: " + what, x.push(pad, 1), Due.NO);
            due.is("promise 17: " + what, x.mat(pad), Due.STATE);
        }
        due.is("promise 16: " + what, x.lifted(), Due.STATE);
        for (int no : NO_PAD) {
            due.is("promise 17: PAD " + no + " is named ahead of: " + what, x.mat(no), Due.NONE);
        }
    }

    private static void noPushes() {
        noPushesAre("W is 0", new CranePads());
        for (int edge = 0; edge < 4; edge++) {
            CranePads x = withPart(999, 10 * OVER_X[edge], 10 * OVER_Y[edge]);
            due.is("promise 16: it doesn't TIP, on EDGE " + edge, x.lifted(), Due.NOT_SO);
            x.part(1, 11 * OVER_X[edge], 11 * OVER_Y[edge], false);
            noPushesAre("it TIPS over EDGE " + edge, x);
        }
        CranePads y = withPart(100, 3, 0);
        y.pad(1, 0, 0, 9999);
        noPushesAre("it doesn't STAND", y);
        CranePads z = new CranePads();
        z.put(3, 1);
        due.is("promise 16: a LOAD of 1 is enough", z.lifted(), Due.NOT_SO);
        pushIs("a LOAD of 1 at REACH 5", z, 0, 3, 8);
    }

    private static void pushRefuses() {
        CranePads x = withPart(100, 0, 0);
        for (int i = 0; i < 4; i++) {
            due.is("promise 15: PAD " + NO_PAD[i], x.push(NO_PAD[i], 0), Due.NO);
            due.is("promise 15: part " + NO_SIDE[i], x.push(0, NO_SIDE[i]), Due.NO);
            due.is("promise 15: neither", x.push(NO_PAD[i], NO_SIDE[i]), Due.NO);
            due.is("promise 17: PAD " + NO_PAD[i], x.mat(NO_PAD[i]), Due.NONE);
        }
        due.is("promise 15: PAD 3, part 1", x.push(3, 1), 1);
    }

    /** The greatest PADS, the least ones and the most MASS: nothing runs over. */
    private static void theGreatestPushes() {
        CranePads x = new CranePads();
        x.pad(0, 30, 30, 9999);
        x.pad(1, -30, 30, 9999);
        x.pad(2, -30, -30, 9999);
        x.pad(3, 30, -30, 9999);
        for (int i = 0; i < 8; i++) {
            x.part(999, 30, 0, false);
        }
        x.put(1, 30);
        x.put(2, 999);
        x.put(3, 9999);
        pushIs("the greatest W, on an EDGE", x, 0, 18990, 2);
        pushIs("the greatest W, on an EDGE", x, 1, 0, 1);
        x.put(0, 2);
        // the hook is at (24, 18), and PAD 2 is LIFTED
        long alongX = 7992L * 30 + 10998L * 24;
        long alongY = 10998L * 18;
        pushIs("the greatest W, at DIRECTION 2", x, 0, alongX + alongY, 60);
        pushIs("the greatest W, at DIRECTION 2", x, 1, 18990L * 30 - alongX, 60);
        pushIs("the greatest W, at DIRECTION 2", x, 2, 0, 1);
        pushIs("the greatest W, at DIRECTION 2", x, 3, 18990L * 30 - alongY, 60);
        CranePads y = new CranePads();
        int[] xs = {-29, -30, -30, -29};
        int[] ys = {30, 30, 29, 29};
        for (int k = 0; k < 4; k++) {
            y.pad(k, xs[k], ys[k], 9999);
        }
        for (int i = 0; i < 8; i++) {
            y.part(999, -29, 30, false);
        }
        pushIs("the least square, far out", y, 0, 7992, 1);
        pushIs("the least square, far out", y, 1, 0, 1);
        due.is("promise 16: the least square, far out", y.lifted(), 2);
    }

    // ---- promise 17

    /** All is above PAD 0, so its PUSH is all the MASS. */
    private static void everySideIsJustEnough() {
        CranePads x = withPart(1, 10, 10);
        x.part(1, 10, 10, false);
        x.put(4, 1);
        for (int side = 2; side <= 31; side++) {
            x.mass(0, side * side - 1);
            x.mass(1, 1);
            due.is("promise 17: just enough with side " + side, x.mat(0), side);
            x.mass(1, 2);
            due.is("promise 17: one more than side " + side, x.mat(0), side + 1);
        }
    }

    private static void theLeastSideAndTheGreatest() {
        CranePads x = withPart(1, 10, 10);
        due.is("promise 17: PUSH 0 has side 1", x.mat(2), 1);
        x.put(4, 1);
        due.is("promise 17: PUSH 1 on GROUND 1", x.mat(0), 1);
        x.mass(0, 2);
        due.is("promise 17: PUSH 2 on GROUND 1", x.mat(0), 2);
        x.put(4, 2);
        due.is("promise 17: PUSH 2 on GROUND 2", x.mat(0), 1);
        x.put(4, 999);
        x.mass(0, 999);
        due.is("promise 17: PUSH 999 on GROUND 999", x.mat(0), 1);
        x.part(1, 10, 10, false);
        due.is("promise 17: PUSH 1000 on GROUND 999", x.mat(0), 2);
        CranePads y = new CranePads();
        y.put(1, 0);
        y.put(3, 9999);
        // a quarter of 14400 is 60 times 60
        for (int i = 0; i < 4; i++) {
            y.part(999, 0, 0, false);
        }
        y.put(4, 1);
        y.part(14400 - 9999 - 4 * 999, 0, 0, false);
        due.is("promise 17: just enough with side 60", y.mat(3), 60);
        y.put(2, 1);
        due.is("promise 17: a quarter above, no side is enough", y.mat(3), Due.NOT_SO);
        y.put(4, 2);
        due.is("promise 17: on GROUND 2 one is", y.mat(3), 43);
    }

    private static void aMatOfEachPad() {
        for (int k = 0; k < 4; k++) {
            CranePads x = withPart(100, 10 * Due.OUT_X[k], 10 * Due.OUT_Y[k]);
            x.put(4, 1);
            for (int other = 0; other < 4; other++) {
                due.is("promise 17: all above PAD " + k, x.mat(other), other == k ? 10 : 1);
            }
        }
    }

    // ---- promise 18

    private static void mayOnEachEdgeAndNotBeyond() {
        due.is("promise 18: W is 0", new CranePads().why(), 2);
        for (int edge = 0; edge < 4; edge++) {
            CranePads x = withPart(999, 10 * OVER_X[edge], 10 * OVER_Y[edge]);
            due.is("promise 18: just on EDGE " + edge, x.why(), 0);
            x.part(1, 11 * OVER_X[edge], 11 * OVER_Y[edge], false);
            due.is("promise 18: just beyond EDGE " + edge, x.why(), 2);
        }
    }

    private static void aLimitOfEachPad() {
        for (int k = 0; k < 4; k++) {
            CranePads x = withPart(100, 0, 0);
            x.pad(k, 10 * Due.OUT_X[k], 10 * Due.OUT_Y[k], 25);
            due.is("promise 18: PUSH is just the LIMIT of PAD " + k, x.why(), 0);
            x.mass(0, 101);
            due.is("promise 18: PUSH is a quarter above the LIMIT of PAD " + k, x.why(), 4);
            x.pad(k, 10 * Due.OUT_X[k], 10 * Due.OUT_Y[k], 26);
            due.is("promise 18: PUSH is below the LIMIT of PAD " + k, x.why(), 0);
            CranePads y = withPart(100, -6 * Due.OUT_X[k], -5 * Due.OUT_Y[k]);
            y.pad(k, 10 * Due.OUT_X[k], 10 * Due.OUT_Y[k], 0);
            due.is("promise 18: a LIFTED one with LIMIT 0", y.why(), 0);
            int across = (k + 2) % 4;
            y.pad(across, 10 * Due.OUT_X[across], 10 * Due.OUT_Y[across], 54);
            due.is("promise 18: a LIMIT of one of three", y.why(), 4);
            y.pad(across, 10 * Due.OUT_X[across], 10 * Due.OUT_Y[across], 55);
            due.is("promise 18: just the LIMIT of one of three", y.why(), 0);
            CranePads z = withPart(100, -5 * Due.OUT_X[k], -5 * Due.OUT_Y[k]);
            z.pad(k, 10 * Due.OUT_X[k], 10 * Due.OUT_Y[k], 0);
            due.is("promise 18: PUSH 0 with LIMIT 0", z.why(), 0);
        }
    }

    private static void allowedOrNot() {
        CranePads x = withPart(900, 0, 0);
        due.is("promise 18: nothing hangs, nothing is ALLOWED", x.why(), 0);
        x.put(2, 1);
        due.is("promise 18: HOOK 1, nothing is ALLOWED", x.why(), 5);
        x.put(2, 0);
        x.put(3, 1);
        due.is("promise 18: LOAD 1, nothing is ALLOWED", x.why(), 5);
        x.entry(0, 5, 100);
        x.put(2, 40);
        x.put(3, 60);
        due.is("promise 18: LOAD and HOOK are just ALLOWED", x.why(), 0);
        x.put(3, 61);
        due.is("promise 18: a LOAD one more", x.why(), 5);
        x.put(3, 60);
        x.put(2, 41);
        due.is("promise 18: a HOOK one more", x.why(), 5);
        x.put(2, 40);
        x.put(1, 6);
        due.is("promise 18: behind the last ENTRY", x.why(), 5);
    }

    /** All the reasons at once; then the first is taken away, one after another. */
    private static void theFirstReasonIsTold() {
        CranePads x = withPart(100, 0, 0);
        x.pad(2, -10, -10, 0);
        x.pad(0, -10, -9, 9999);
        x.put(1, 60);
        x.put(3, 9999);
        due.is("promise 18: it doesn't STAND is ahead of all", x.why(), 1);
        x.pad(0, 10, 10, 9999);
        due.is("promise 18: it TIPS is ahead of a LIMIT", x.why(), 2);
        x.put(1, 0);
        due.is("promise 18: a LIMIT is ahead of ALLOWED", x.why(), 4);
        x.pad(2, -10, -10, 9999);
        due.is("promise 18: ALLOWED is the last", x.why(), 5);
        x.entry(0, 0, 9999);
        due.is("promise 18: it MAY", x.why(), 0);
        CranePads y = new CranePads();
        y.pad(0, -10, -9, 9999);
        due.is("promise 18: it doesn't STAND is ahead of W is 0", y.why(), 1);
    }

    public static void main(String[] args) {
        theLeastAndTheGreatestWeight();
        everyDirectionOfAPartAndOfWhatHangs();
        noCentreIfNothingWeighs();
        theFarthestCentre();
        centreRefuses();
        everyEdgeGoesRound();
        momentsAboutNought();
        theGreatestMoments();
        aMomentNeedsNoStanding();
        momentRefuses();
        factorOfEachEdge();
        whatHasNoMassCountsForNothing();
        factorAtEachDirection();
        factorOfTheHookAtEachDirection();
        factorRefuses();
        aPadIsLiftedOnlyBelowNought();
        theLawsOnPadsThatAreNoSquare();
        allAboveOnePad();
        onAnEdgeTwoBearIt();
        noPushes();
        pushRefuses();
        theGreatestPushes();
        everySideIsJustEnough();
        theLeastSideAndTheGreatest();
        aMatOfEachPad();
        mayOnEachEdgeAndNotBeyond();
        aLimitOfEachPad();
        allowedOrNot();
        theFirstReasonIsTold();
        due.end();
    }
}
