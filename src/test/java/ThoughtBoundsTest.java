/** Promises 19 to 23, and what ==== 2 says of them: every sentence that names a boundary. */
public final class ThoughtBoundsTest {
    private static final Due due = new Due();
    private static final int[] NO_REACH = {-1, 61, Due.LEAST_INT, Due.GREATEST_INT};
    private static final int[] NO_DIRECTION = {-1, 20, Due.LEAST_INT, Due.GREATEST_INT};
    private static final int EVERY = 0xFFFFF;

    private static CranePads doesNotStand() {
        CranePads x = Due.firm();
        x.pad(0, 0, 0, 9999);
        return x;
    }

    /** The LOAD is lawful in QUARTER q alone. */
    private static CranePads onlyIn(int quarter) {
        CranePads x = Due.firm();
        x.put(3, 10);
        for (int q = 0; q < 4; q++) {
            x.put(10 + q, q == quarter ? 100 : 0);
        }
        return x;
    }

    // ---- promise 19

    private static void theMostByTheChart() {
        CranePads x = Due.firm();
        due.is("promise 19: 9999 ALLOWED, 999 at most", x.most(), 999);
        x.entry(0, 60, 1000);
        due.is("promise 19: 1000 ALLOWED, 999 at most", x.most(), 999);
        x.entry(0, 60, 999);
        due.is("promise 19: just 999 ALLOWED", x.most(), 999);
        x.entry(0, 60, 998);
        due.is("promise 19: 998 ALLOWED", x.most(), 998);
        x.entry(0, 60, 1);
        due.is("promise 19: 1 ALLOWED", x.most(), 1);
        x.entry(0, 60, 0);
        due.is("promise 19: 0 ALLOWED", x.most(), 0);
        x.put(2, 1);
        due.is("promise 19: 0 ALLOWED, HOOK 1", x.most(), Due.NOT_SO);
        x.entry(0, 60, 1);
        due.is("promise 19: 1 ALLOWED, HOOK 1", x.most(), 0);
        x.put(3, 9999);
        due.is("promise 19: the LOAD as it is doesn't count", x.most(), 0);
        due.is("promise 19: in thought", x.told(3), 9999);
    }

    private static void theMostWithoutParts() {
        CranePads x = new CranePads();
        due.is("promise 19: W is 0 with LOAD 0, and no more is ALLOWED", x.most(), Due.NOT_SO);
        x.entry(0, 60, 1);
        due.is("promise 19: LOAD 1 weighs", x.most(), 1);
        x.put(1, 10);
        due.is("promise 19: LOAD 1 on the EDGE", x.most(), 1);
        x.put(1, 11);
        due.is("promise 19: LOAD 1 beyond the EDGE", x.most(), Due.NOT_SO);
        due.is("promise 19: it doesn't STAND", doesNotStand().most(), Due.NOT_SO);
    }

    /** 900 times 10 hold; a LOAD at REACH 20 has 10, at 19 it has 9. */
    private static void theMostUntilItTips() {
        CranePads x = Due.firm();
        x.put(1, 20);
        due.is("promise 19: just on the EDGE", x.most(), 900);
        x.mass(0, 899);
        due.is("promise 19: one less holds", x.most(), 899);
        x.put(1, 19);
        due.is("promise 19: 8990 by 9, cut", x.most(), 998);
        x.mass(0, 900);
        due.is("promise 19: 9000 by 9 is 1000, 999 at most", x.most(), 999);
    }

    // ---- promise 20

    private static void whereInEachQuarter() {
        for (int q = 0; q < 4; q++) {
            CranePads x = onlyIn(q);
            due.is("promise 20: QUARTER " + q + " alone, REACH 0", x.where(0), 0x1F << 5 * q);
            due.is("promise 20: QUARTER " + q + " alone, REACH 5", x.where(5), 0x1F << 5 * q);
            due.is("promise 20: in thought", x.told(0) * 100 + x.told(1), 5);
        }
        due.is("promise 20: everywhere", Due.firm().where(0), EVERY);
        due.is("promise 20: everywhere, REACH 60", Due.firm().where(60), EVERY);
        due.is("promise 20: nowhere", onlyIn(4).where(0), 0);
        due.is("promise 20: it doesn't STAND", doesNotStand().where(0), 0);
        due.is("promise 20: W is 0", new CranePads().where(0), 0);
    }

    /** On the least PADS a LOAD balances a PART across the middle: at one DIRECTION alone. */
    private static void whereAtOneDirectionAlone() {
        int[] reach = {40, 39, 40, 40, 39};
        int[] acrossX = {-40, -36, -32, -24, -15};
        int[] acrossY = {0, -15, -24, -32, -36};
        for (int d = 0; d < 20; d++) {
            int i = d % 5;
            int a = acrossX[i];
            int b = acrossY[i];
            for (int q = 0; q < d / 5; q++) {
                int was = a;
                a = -b;
                b = was;
            }
            CranePads x = new CranePads();
            for (int k = 0; k < 4; k++) {
                x.pad(k, Due.OUT_X[k], Due.OUT_Y[k], 9999);
            }
            x.entry(0, 60, 9);
            x.part(9, a, b, false);
            x.put(3, 9);
            due.is("promise 20: DIRECTION " + d + " alone", x.where(reach[i]), 1 << d);
            // 2 farther the CENTRE is 1 out: on the EDGE at DIRECTION 0; 3 farther it's beyond it at each
            due.is("promise 21: DIRECTION " + d + " alone", x.farthest(d), reach[i] + 2);
            due.is("promise 21: the next, round", x.farthest((d + 1) % 20), Due.NOT_SO);
            due.is("promise 21: the one ahead, round", x.farthest((d + 19) % 20), Due.NOT_SO);
        }
    }

    private static void whereRefuses() {
        CranePads x = Due.firm();
        for (int no : NO_REACH) {
            due.is("promise 20: REACH " + no, x.where(no), Due.BAD);
            due.is("promise 20: REACH " + no + " is named ahead of nowhere", new CranePads().where(no), Due.BAD);
        }
    }

    // ---- promise 21

    private static void theFarthest() {
        CranePads x = Due.firm();
        due.is("promise 21: DIRECTION 0, to 60", x.farthest(0), 60);
        due.is("promise 21: DIRECTION 19, to 60", x.farthest(19), 60);
        x.put(3, 180);
        // 900 times 10 hold, 180 times 50 tip
        due.is("promise 21: just to 60", x.farthest(0), 60);
        x.put(3, 181);
        due.is("promise 21: just not to 60", x.farthest(0), 59);
        x.put(3, 9999);
        // 9000 hold, 9999 tips at 11
        due.is("promise 21: just to the EDGE", x.farthest(0), 10);
        due.is("promise 21: in thought", x.told(0) * 100 + x.told(1), 5);
        x.entry(0, 0, 9999);
        x.entry(0, 60, -1);
        due.is("promise 21: at 0 alone", x.farthest(7), 0);
        x.entry(0, 0, 9998);
        due.is("promise 21: nowhere", x.farthest(7), Due.NOT_SO);
        due.is("promise 21: it doesn't STAND", doesNotStand().farthest(0), Due.NOT_SO);
        due.is("promise 21: W is 0", new CranePads().farthest(0), Due.NOT_SO);
        due.is("promise 21: QUARTER 3 alone, DIRECTION 19", onlyIn(3).farthest(19), 60);
        due.is("promise 21: QUARTER 3 alone, DIRECTION 0", onlyIn(3).farthest(0), Due.NOT_SO);
    }

    private static void farthestRefuses() {
        for (int no : NO_DIRECTION) {
            due.is("promise 21: DIRECTION " + no, Due.firm().farthest(no), Due.NONE);
            due.is("promise 21: DIRECTION " + no + " is named ahead of nowhere", new CranePads().farthest(no), Due.NONE);
        }
    }

    // ---- promise 22

    private static void waysGoRound() {
        for (int from = 0; from < 20; from++) {
            CranePads x = Due.firm();
            x.put(0, from);
            for (int to = 0; to < 20; to++) {
                int on = (to - from + 20) % 20;
                due.is("promise 22: from DIRECTION " + from + " to " + to, x.way(to, 5), Math.min(on, 20 - on));
            }
            due.is("promise 22: in thought", x.told(0), from);
        }
    }

    private static void reachDoesNotGoRound() {
        CranePads x = Due.firm();
        x.put(1, 0);
        due.is("promise 22: REACH 0 to 60", x.way(0, 60), 60);
        due.is("promise 22: REACH 0 to 0", x.way(0, 0), 0);
        x.put(1, 60);
        due.is("promise 22: REACH 60 to 0", x.way(0, 0), 60);
        due.is("promise 22: REACH 60 to 60", x.way(0, 60), 0);
        due.is("promise 22: as far as can be", x.way(10, 0), 70);
        due.is("promise 22: in thought", x.told(1), 60);
    }

    private static void theFirstAndTheLastMayToo() {
        CranePads x = onlyIn(1);
        due.is("promise 22: it may not be so at first", x.way(5, 5), Due.NOT_SO);
        due.is("promise 22: it may not be so at first, and is there", x.way(0, 5), Due.NOT_SO);
        x.put(0, 5);
        due.is("promise 22: it may be so, and is there", x.way(5, 5), 0);
        due.is("promise 22: to the QUARTER's end", x.way(9, 5), 4);
        due.is("promise 22: it may not be so at last", x.way(10, 5), Due.NOT_SO);
        due.is("promise 22: it may not be so at last, next to it", x.way(4, 5), Due.NOT_SO);
        x.put(10, 100);
        due.is("promise 22: through two QUARTERS", x.way(0, 5), 5);
        x.put(13, 100);
        due.is("promise 22: through three, round", x.way(15, 5), 10);
        due.is("promise 22: into the shut one", x.way(10, 5), Due.NOT_SO);
        x.put(0, 9);
        due.is("promise 22: round the shut one", x.way(15, 5), 14);
        due.is("promise 22: W is 0", new CranePads().way(0, 5), Due.NOT_SO);
        due.is("promise 22: it doesn't STAND", doesNotStand().way(0, 5), Due.NOT_SO);
    }

    /** What may hang is enough at REACH 0 to 5 and at REACH 10 alone: none leads from one to the other. */
    private static void noWayOverAGap() {
        CranePads x = Due.firm();
        x.entry(0, 60, -1);
        x.entry(0, 5, 100);
        x.entry(0, 6, 0);
        x.entry(0, 9, 0);
        x.entry(0, 10, 100);
        x.put(3, 100);
        due.is("promise 22: up to the gap", x.way(10, 0), 15);
        due.is("promise 21: behind the gap it MAY", x.farthest(0), 10);
        due.is("promise 22: over the gap", x.way(0, 10), Due.NOT_SO);
        x.put(3, 0);
        due.is("promise 22: without a LOAD", x.way(0, 10), 5);
    }

    /** PADS that are long and thin: along them to REACH 60, across them to REACH 6. */
    private static void aLongWay() {
        CranePads x = Due.firm();
        for (int k = 0; k < 4; k++) {
            x.pad(k, 30 * Due.OUT_X[k], 3 * Due.OUT_Y[k], 9999);
        }
        x.put(3, 900);
        x.put(1, 60);
        due.is("promise 22: in, round and out", x.way(10, 60), 54 + 10 + 54);
        due.is("promise 22: in and round", x.way(5, 6), 54 + 5);
        due.is("promise 22: no farther across", x.way(5, 7), Due.NOT_SO);
    }

    private static void wayRefuses() {
        CranePads x = Due.firm();
        CranePads nowhere = new CranePads();
        for (int i = 0; i < 4; i++) {
            due.is("promise 22: DIRECTION " + NO_DIRECTION[i], x.way(NO_DIRECTION[i], 5), Due.NONE);
            due.is("promise 22: REACH " + NO_REACH[i], x.way(0, NO_REACH[i]), Due.BAD);
            due.is("promise 22: no DIRECTION is named ahead of REACH", x.way(NO_DIRECTION[i], NO_REACH[i]), Due.NONE);
            due.is("promise 22: no DIRECTION is named ahead of -5", nowhere.way(NO_DIRECTION[i], 5), Due.NONE);
            due.is("promise 22: a bad REACH is named ahead of -5", nowhere.way(0, NO_REACH[i]), Due.BAD);
        }
        due.is("promise 22: the greatest of both", x.way(19, 60), 56);
    }

    // ---- promise 23

    /** The ballast is 20 away from EDGE 3, the LOAD 10 beyond it. */
    private static CranePads balanced(int load) {
        CranePads x = new CranePads();
        x.entry(0, 60, 9999);
        x.part(500, -10, 0, false);
        x.put(1, 20);
        x.put(3, load);
        return x;
    }

    private static void theLeastBallast() {
        due.is("promise 23: nothing hangs, 1", balanced(0).ballast(0), 1);
        due.is("promise 23: just 1", balanced(2).ballast(0), 1);
        due.is("promise 23: a half above 1", balanced(3).ballast(0), 2);
        due.is("promise 23: just 998", balanced(1996).ballast(0), 998);
        due.is("promise 23: a half above 998", balanced(1997).ballast(0), 999);
        due.is("promise 23: just 999", balanced(1998).ballast(0), 999);
        due.is("promise 23: a half above 999", balanced(1999).ballast(0), Due.NOT_SO);
        CranePads x = balanced(1998);
        x.ballast(0);
        due.is("promise 23: in thought", x.mass(0, 1), 500);
        CranePads y = doesNotStand();
        due.is("promise 23: it doesn't STAND", y.ballast(0), Due.NOT_SO);
    }

    /** At DIRECTION 7, (-3/5, 4/5), a PART behind the top, at A -20 and B 10, is at (4, -22). */
    private static void ballastThatTurns() {
        CranePads x = new CranePads();
        x.entry(0, 60, 9999);
        x.part(1, 0, 0, false);
        x.part(500, -20, 10, true);
        x.put(0, 7);
        x.put(1, 20);
        x.put(3, 100);
        // the LOAD is at (-12, 16): 100 times 6 beyond EDGE 0, each of ballast 32 ahead of it, 10 the PART's own
        due.is("promise 23: TURNING, (600 - 10) by 32", x.ballast(1), 19);
        due.is("promise 19: what it holds", x.most(), 999);
        x.mass(1, 19);
        // 10 and 19 times 32 hold about EDGE 0, a LOAD has 6
        due.is("promise 19: 618 by 6", x.most(), 103);
        due.is("promise 20: at other DIRECTIONS too", x.where(20) >> 7 & 1, 1);
        due.is("promise 21: to 20", x.farthest(7), 20);
    }

    /** A PART that stays at (3, -25). */
    private static void ballastThatStays() {
        CranePads x = new CranePads();
        x.entry(0, 60, 9999);
        x.part(500, 3, -25, false);
        x.put(0, 5);
        x.put(1, 20);
        x.put(3, 100);
        // 100 times 10 beyond EDGE 0, each of ballast 35 ahead of it
        due.is("promise 23: not TURNING, 1000 by 35", x.ballast(0), 29);
        x.put(0, 0);
        due.is("promise 23: at DIRECTION 0 none", x.ballast(0), Due.NOT_SO);
    }

    private static void ballastOfTheFirstAndTheLastPart() {
        CranePads x = new CranePads();
        due.is("promise 23: no PARTS", x.ballast(0), Due.NONE);
        for (int i = 0; i < 8; i++) {
            x.part(100 + i, -10, 0, i % 2 == 1);
        }
        due.is("promise 23: PART 0", x.ballast(0), 1);
        due.is("promise 23: PART 7", x.ballast(7), 1);
        due.is("promise 23: PART 8", x.ballast(8), Due.NONE);
    }

    private static void ballastRefuses() {
        int[] none = {-1, 1, 7, 8, Due.LEAST_INT, Due.GREATEST_INT};
        for (int part : none) {
            due.is("promise 23: PART " + part, balanced(2).ballast(part), Due.NONE);
            due.is("promise 23: PART " + part + " is named ahead of -5", balanced(9999).ballast(part), Due.NONE);
        }
    }

    public static void main(String[] args) {
        theMostByTheChart();
        theMostWithoutParts();
        theMostUntilItTips();
        whereInEachQuarter();
        whereAtOneDirectionAlone();
        whereRefuses();
        theFarthest();
        farthestRefuses();
        waysGoRound();
        reachDoesNotGoRound();
        theFirstAndTheLastMayToo();
        noWayOverAGap();
        aLongWay();
        wayRefuses();
        theLeastBallast();
        ballastThatTurns();
        ballastThatStays();
        ballastOfTheFirstAndTheLastPart();
        ballastRefuses();
        due.end();
    }
}
