/** Promises 1 to 10, and what "Terms" says of them: every sentence that names a boundary. */
public final class ToldBoundsTest {
    private static final Due due = new Due();
    private static final int[] FAR = {Due.LEAST_INT, Due.GREATEST_INT};

    // ---- promise 1

    private static void aNewObjectHoldsNothing() {
        CranePads x = new CranePads();
        due.is("promise 1: no PARTS", x.count(0), 0);
        due.is("promise 1: no PART 0", x.mass(0, 1), Due.NONE);
        for (int chart = 0; chart < 3; chart++) {
            due.is("promise 1: no ENTRIES in CHART " + chart, x.count(3 + chart), 0);
            for (int reach = 0; reach <= 60; reach++) {
                due.is("promise 1: without ENTRIES READ is 0 at " + reach, x.read(chart, reach), 0);
            }
        }
        due.is("promise 1: THE TAPE is empty", x.count(1), 0);
        due.is("promise 1: no PLAN, no STEPS", x.count(2), 0);
        due.is("promise 1: no PLAN", x.checked(0), Due.STATE);
        due.is("promise 1: the BOOK is empty", x.booked(0, 0), Due.NONE);
        due.is("promise 1: no IMAGE", x.undo(), Due.STATE);
        for (int list = 0; list < 4; list++) {
            due.is("promise 1: LIST " + list + " holds nothing", x.set(list, 0, 1), Due.NOTHING);
        }
    }

    private static void whatHoldsAtFirst() {
        CranePads x = new CranePads();
        for (int k = 0; k < 4; k++) {
            due.is("promise 1: X of PAD " + k + " at first", x.padOf(k, 0), 10 * Due.OUT_X[k]);
            due.is("promise 1: Y of PAD " + k + " at first", x.padOf(k, 1), 10 * Due.OUT_Y[k]);
            due.is("promise 1: LIMIT of PAD " + k + " at first", x.padOf(k, 2), 9999);
        }
        due.is("promise 1: it STANDS at first", x.count(6), 1);
        due.is("promise 1: DIRECTION at first", x.told(0), 0);
        due.is("promise 1: REACH at first", x.told(1), 5);
        due.is("promise 1: HOOK at first", x.told(2), 0);
        due.is("promise 1: LOAD at first", x.told(3), 0);
        due.is("promise 1: GROUND at first", x.told(4), 50);
        due.is("promise 1: CHART in use at first", x.told(5), 0);
        due.is("promise 1: WIND at first", x.told(6), 0);
        due.is("promise 1: MANNER at first", x.told(7), 0);
        for (int q = 0; q < 4; q++) {
            due.is("promise 1: PERCENT of QUARTER " + q + " at first", x.told(10 + q), 100);
        }
    }

    // ---- promise 2

    /** PAD k is put outward or inward, as far as may be: it STANDS only if outward. */
    private static void padTakesLeastAndGreatest() {
        for (int k = 0; k < 4; k++) {
            for (int side = -1; side <= 1; side += 2) {
                CranePads x = new CranePads();
                int far = 30 * side * Due.OUT_X[k];
                due.is("promise 2: X " + far + " of PAD " + k, x.pad(k, far, 10 * Due.OUT_Y[k], 9999), side > 0 ? 1 : 0);
                due.is("promise 2: X " + far + " of PAD " + k + " is so", x.padOf(k, 0), far);
                CranePads y = new CranePads();
                far = 30 * side * Due.OUT_Y[k];
                due.is("promise 2: Y " + far + " of PAD " + k, y.pad(k, 10 * Due.OUT_X[k], far, 9999), side > 0 ? 1 : 0);
                due.is("promise 2: Y " + far + " of PAD " + k + " is so", y.padOf(k, 1), far);
            }
            CranePads z = new CranePads();
            due.is("promise 2: LIMIT 0", z.pad(k, 10 * Due.OUT_X[k], 10 * Due.OUT_Y[k], 0), 1);
            due.is("promise 2: LIMIT 0 is so", z.padOf(k, 2), 0);
            due.is("promise 2: LIMIT 9999", z.pad(k, 10 * Due.OUT_X[k], 10 * Due.OUT_Y[k], 9999), 1);
            due.is("promise 2: LIMIT 9999 is so", z.padOf(k, 2), 9999);
        }
    }

    private static void padRefuses(String what, int pad, int x, int y, int limit, int answer) {
        CranePads crane = new CranePads();
        due.is("promise 2: " + what, crane.pad(pad, x, y, limit), answer);
        for (int k = 0; k < 4; k++) {
            due.is("promise 2: " + what + " changes no X", crane.padOf(k, 0), 10 * Due.OUT_X[k]);
            due.is("promise 2: " + what + " changes no Y", crane.padOf(k, 1), 10 * Due.OUT_Y[k]);
            due.is("promise 2: " + what + " changes no LIMIT", crane.padOf(k, 2), 9999);
        }
        due.is("promise 2: " + what + ", it STANDS all the same", crane.count(6), 1);
    }

    private static void padRefusesOneBelowAndOneAbove() {
        for (int k = 0; k < 4; k++) {
            padRefuses("X -31", k, -31, 7, 5, Due.BAD);
            padRefuses("X 31", k, 31, 7, 5, Due.BAD);
            padRefuses("Y -31", k, 7, -31, 5, Due.BAD);
            padRefuses("Y 31", k, 7, 31, 5, Due.BAD);
            padRefuses("LIMIT -1", k, 7, 7, -1, Due.BAD);
            padRefuses("LIMIT 10000", k, 7, 7, 10000, Due.BAD);
        }
        for (int far : FAR) {
            padRefuses("X " + far, 1, far, 7, 5, Due.BAD);
            padRefuses("Y " + far, 1, 7, far, 5, Due.BAD);
            padRefuses("LIMIT " + far, 1, 7, 7, far, Due.BAD);
            padRefuses("PAD " + far, far, 7, 7, 5, Due.NONE);
        }
        padRefuses("PAD -1", -1, 7, 7, 5, Due.NONE);
        padRefuses("PAD 4", 4, 7, 7, 5, Due.NONE);
        padRefuses("no PAD is named ahead of a bad X", 4, 31, 7, 5, Due.NONE);
        padRefuses("no PAD is named ahead of a bad Y", -1, 7, -31, 5, Due.NONE);
        padRefuses("no PAD is named ahead of a bad LIMIT", 4, 7, 7, -1, Due.NONE);
    }

    /** PAD k alone makes three that are straight, or turn to the right: each of the four, round. */
    private static void standingIsStrictForEachThree() {
        for (int k = 0; k < 4; k++) {
            CranePads x = new CranePads();
            due.is("promise 2: PAD " + k + " just outside the line of its neighbours",
                x.pad(k, Due.OUT_X[k], 0, 9999), 1);
            due.is("promise 2: PAD " + k + " on the line of its neighbours", x.pad(k, 0, 0, 9999), 0);
            due.is("promise 39: so it doesn't STAND", x.count(6), 0);
            due.is("promise 2: PAD " + k + " just inside the line of its neighbours",
                x.pad(k, -Due.OUT_X[k], 0, 9999), 0);
            due.is("promise 2: PAD " + k + " where it was", x.pad(k, 10 * Due.OUT_X[k], 10 * Due.OUT_Y[k], 9999), 1);
            due.is("promise 39: so it STANDS", x.count(6), 1);
        }
    }

    private static int standsWith(int[] xs, int[] ys) {
        CranePads x = new CranePads();
        int answer = -99;
        for (int k = 0; k < 4; k++) {
            answer = x.pad(k, xs[k], ys[k], 1);
        }
        return answer;
    }

    private static void whatDoesAndDoesNotStand() {
        due.is("promise 2: the least square", standsWith(new int[] {1, 0, 0, 1}, new int[] {1, 1, 0, 0}), 1);
        due.is("promise 2: the greatest", standsWith(new int[] {30, -30, -30, 30}, new int[] {30, 30, -30, -30}), 1);
        due.is("promise 2: turned a quarter", standsWith(new int[] {-9, -9, 9, 9}, new int[] {9, -9, -9, 9}), 1);
        due.is("promise 2: a row the other way round", standsWith(new int[] {9, 9, -9, -9}, new int[] {9, -9, -9, 9}), 0);
        due.is("promise 2: crossed", standsWith(new int[] {9, -9, 9, -9}, new int[] {9, 9, -9, -9}), 0);
        due.is("promise 2: all at one place", standsWith(new int[] {3, 3, 3, 3}, new int[] {3, 3, 3, 3}), 0);
        due.is("promise 2: two at one place", standsWith(new int[] {9, 9, -9, 9}, new int[] {9, 9, -9, -9}), 0);
        due.is("promise 2: all on a line", standsWith(new int[] {9, 3, -3, -9}, new int[] {9, 3, -3, -9}), 0);
        due.is("promise 2: with a dent", standsWith(new int[] {9, -9, 1, 9}, new int[] {9, 9, 1, -9}), 0);
    }

    // ---- promise 3

    private static void partTakesLeastAndGreatest() {
        int[][] taken = {{1, 0, 0}, {999, 0, 0}, {5, -40, 0}, {5, 40, 0}, {5, 0, -40}, {5, 0, 40}};
        for (int[] t : taken) {
            for (int turn = 0; turn < 2; turn++) {
                CranePads x = new CranePads();
                String what = "promise 3: MASS " + t[0] + ", A " + t[1] + ", B " + t[2];
                due.is(what, x.part(t[0], t[1], t[2], turn == 1), 0);
                due.is(what + ", one PART", x.count(0), 1);
                due.is(what + ", W", x.weight(), t[0]);
                due.fraction(what + ", X", x.centre(0, 0), x.centre(0, 1), t[1], 1);
                due.fraction(what + ", Y", x.centre(1, 0), x.centre(1, 1), t[2], 1);
            }
        }
    }

    private static void partRefusesOneBelowAndOneAbove() {
        int[][] refused = {{0, 0, 0}, {1000, 0, 0}, {-1, 0, 0}, {5, -41, 0}, {5, 41, 0}, {5, 0, -41}, {5, 0, 41},
            {FAR[0], 0, 0}, {FAR[1], 0, 0}, {5, FAR[0], 0}, {5, FAR[1], 0}, {5, 0, FAR[0]}, {5, 0, FAR[1]}};
        for (int[] t : refused) {
            CranePads x = new CranePads();
            String what = "promise 3: MASS " + t[0] + ", A " + t[1] + ", B " + t[2];
            due.is(what, x.part(t[0], t[1], t[2], false), Due.BAD);
            due.is(what + " (TURNING)", x.part(t[0], t[1], t[2], true), Due.BAD);
            due.is(what + ", no PART", x.count(0), 0);
            due.is(what + ", W", x.weight(), 0);
        }
    }

    private static void eightPartsAndNoMore() {
        CranePads x = new CranePads();
        for (int i = 0; i < 8; i++) {
            due.is("promise 3: its number, as they come", x.part(10 + i, i, -i, i % 2 == 0), i);
        }
        due.is("promise 3: FULL", x.part(1, 0, 0, false), Due.FULL);
        due.is("promise 3: a bad MASS is named ahead of FULL", x.part(0, 0, 0, false), Due.BAD);
        due.is("promise 3: a bad A is named ahead of FULL", x.part(1, 41, 0, false), Due.BAD);
        due.is("promise 3: a bad B is named ahead of FULL", x.part(1, 0, -41, true), Due.BAD);
        due.is("promise 3: eight PARTS", x.count(0), 8);
        due.is("promise 3: W as it was", x.weight(), 8 * 10 + 28);
        for (int i = 0; i < 8; i++) {
            due.is("promise 4: MASS of PART " + i + " as it came", x.mass(i, 1), 10 + i);
        }
        due.is("promise 4: no PART 8", x.mass(8, 1), Due.NONE);
    }

    // ---- promise 4

    private static void massTakesLeastAndGreatest() {
        CranePads x = new CranePads();
        due.is("promise 4: no PARTS", x.mass(0, 5), Due.NONE);
        x.part(7, 1, 0, false);
        x.part(8, 3, 0, true);
        due.is("promise 4: 1", x.mass(0, 1), 7);
        due.is("promise 4: 999", x.mass(0, 999), 1);
        due.is("promise 4: what it was, 999", x.mass(0, 7), 999);
        due.is("promise 4: the last PART, 1", x.mass(1, 1), 8);
        due.is("promise 4: the last PART, 999", x.mass(1, 999), 1);
        due.is("promise 11: W of these", x.weight(), 7 + 999);
        due.fraction("promise 12: X of these", x.centre(0, 0), x.centre(0, 1), 7 + 3 * 999, 7 + 999);
    }

    private static void massRefuses() {
        CranePads x = new CranePads();
        x.part(7, 1, 0, false);
        x.part(8, 3, 0, true);
        int[] bad = {0, 1000, -1, FAR[0], FAR[1]};
        for (int v : bad) {
            due.is("promise 4: v " + v, x.mass(0, v), Due.BAD);
            due.is("promise 4: v " + v + " of the last", x.mass(1, v), Due.BAD);
            due.is("promise 4: no PART is named ahead of v " + v, x.mass(2, v), Due.NONE);
        }
        int[] none = {-1, 2, 7, 8, FAR[0], FAR[1]};
        for (int part : none) {
            due.is("promise 4: PART " + part, x.mass(part, 5), Due.NONE);
        }
        due.is("promise 4: refused, W is as it was", x.weight(), 15);
        due.is("promise 4: refused, no PART came", x.count(0), 2);
        due.is("promise 4: refused, MASS is as it was", x.mass(0, 7), 7);
        due.is("promise 4: refused, MASS of the last is as it was", x.mass(1, 8), 8);
    }

    // ---- promises 5 and 6

    private static final int[] DIALS = {0, 1, 2, 3, 4, 5, 6, 7, 10, 11, 12, 13};
    private static final int[] LEAST = {0, 0, 0, 0, 1, 0, 0, 0, 0, 0, 0, 0};
    private static final int[] MOST = {19, 60, 999, 9999, 999, 2, 9, 2, 100, 100, 100, 100};
    private static final int[] FIRST = {0, 5, 0, 0, 50, 0, 0, 0, 100, 100, 100, 100};

    private static void putTakesLeastAndGreatest() {
        for (int i = 0; i < DIALS.length; i++) {
            CranePads x = new CranePads();
            int what = DIALS[i];
            due.is("promise 5: what " + what + " becomes " + LEAST[i], x.put(what, LEAST[i]), FIRST[i]);
            due.is("promise 6: what " + what + " is the least", x.told(what), LEAST[i]);
            due.is("promise 5: what " + what + " becomes " + MOST[i], x.put(what, MOST[i]), LEAST[i]);
            due.is("promise 6: what " + what + " is the greatest", x.told(what), MOST[i]);
            due.is("promise 5: what " + what + " becomes " + LEAST[i] + " again", x.put(what, LEAST[i]), MOST[i]);
            allDialsButOneAre(x, i);
        }
    }

    private static void allDialsButOneAre(CranePads x, int but) {
        for (int i = 0; i < DIALS.length; i++) {
            if (i != but) {
                due.is("promise 5: what " + DIALS[i] + " is as it was", x.told(DIALS[i]), FIRST[i]);
            }
        }
    }

    private static void putRefuses() {
        for (int i = 0; i < DIALS.length; i++) {
            CranePads x = new CranePads();
            int[] bad = {LEAST[i] - 1, MOST[i] + 1, FAR[0], FAR[1]};
            for (int v : bad) {
                due.is("promise 5: what " + DIALS[i] + " can't become " + v, x.put(DIALS[i], v), Due.BAD);
            }
            allDialsButOneAre(x, -1);
        }
        CranePads y = new CranePads();
        int[] none = {-1, 8, 9, 14, 15, FAR[0], FAR[1]};
        for (int what : none) {
            due.is("promise 5: what " + what, y.put(what, 1), Due.NONE);
            due.is("promise 5: what " + what + " is named ahead of v", y.put(what, -1), Due.NONE);
            due.is("promise 6: what " + what, y.told(what), Due.NONE);
        }
        allDialsButOneAre(y, -1);
    }

    // ---- promise 7

    private static void padOfAnswersOrNot() {
        CranePads x = new CranePads();
        x.pad(0, 11, 12, 13);
        x.pad(3, 14, -15, 16);
        due.is("promise 7: X of PAD 0", x.padOf(0, 0), 11);
        due.is("promise 7: Y of PAD 0", x.padOf(0, 1), 12);
        due.is("promise 7: LIMIT of PAD 0", x.padOf(0, 2), 13);
        due.is("promise 7: X of PAD 3", x.padOf(3, 0), 14);
        due.is("promise 7: Y of PAD 3", x.padOf(3, 1), -15);
        due.is("promise 7: LIMIT of PAD 3", x.padOf(3, 2), 16);
        int[] noPad = {-1, 4, FAR[0], FAR[1]};
        int[] noWhat = {-1, 3, FAR[0], FAR[1]};
        for (int i = 0; i < 4; i++) {
            due.is("promise 7: PAD " + noPad[i], x.padOf(noPad[i], 0), Due.NO);
            due.is("promise 7: what " + noWhat[i], x.padOf(0, noWhat[i]), Due.NO);
            due.is("promise 7: neither", x.padOf(noPad[i], noWhat[i]), Due.NO);
        }
    }

    // ---- promise 8

    private static void entryTakesLeastAndGreatest() {
        for (int chart = 0; chart < 3; chart++) {
            CranePads x = new CranePads();
            due.is("promise 8: REACH 0, v 0", x.entry(chart, 0, 0), 1);
            due.is("promise 8: REACH 60, v 9999", x.entry(chart, 60, 9999), 2);
            due.is("promise 9: REACH 0", x.read(chart, 0), 0);
            due.is("promise 9: REACH 60", x.read(chart, 60), 9999);
            due.is("promise 8: becomes 9999", x.entry(chart, 0, 9999), 2);
            due.is("promise 8: becomes 0", x.entry(chart, 60, 0), 2);
            due.is("promise 9: REACH 0 anew", x.read(chart, 0), 9999);
            due.is("promise 9: REACH 60 anew", x.read(chart, 60), 0);
            due.is("promise 8: the first goes", x.entry(chart, 0, -1), 1);
            due.is("promise 8: the last goes", x.entry(chart, 60, -1), 0);
            due.is("promise 8: there is none", x.entry(chart, 60, -1), Due.STATE);
            due.is("promise 9: without ENTRIES again", x.read(chart, 60), 0);
            for (int other = 0; other < 3; other++) {
                due.is("promise 39: ENTRIES of CHART " + other, x.count(3 + other), 0);
            }
        }
    }

    private static void anEntryOfNoughtIsOne() {
        CranePads x = new CranePads();
        x.entry(1, 9, 0);
        due.is("promise 8: one of 0 is one", x.count(4), 1);
        due.is("promise 8: one of 0 goes", x.entry(1, 9, -1), 0);
    }

    private static void entryRefuses() {
        CranePads x = new CranePads();
        x.entry(0, 5, 50);
        int[] noChart = {-1, 3, FAR[0], FAR[1]};
        for (int chart : noChart) {
            due.is("promise 8: CHART " + chart, x.entry(chart, 5, 7), Due.NONE);
            due.is("promise 8: no CHART is named ahead of REACH", x.entry(chart, 61, 7), Due.NONE);
            due.is("promise 8: no CHART is named ahead of v", x.entry(chart, 5, -2), Due.NONE);
            due.is("promise 8: no CHART is named ahead of STATE", x.entry(chart, 9, -1), Due.NONE);
        }
        int[] noReach = {-1, 61, FAR[0], FAR[1]};
        for (int reach : noReach) {
            due.is("promise 8: REACH " + reach, x.entry(0, reach, 7), Due.BAD);
            due.is("promise 8: REACH " + reach + " is named ahead of STATE", x.entry(0, reach, -1), Due.BAD);
        }
        int[] bad = {-2, 10000, FAR[0], FAR[1]};
        for (int v : bad) {
            due.is("promise 8: v " + v, x.entry(0, 5, v), Due.BAD);
            due.is("promise 8: v " + v + " where there is none", x.entry(0, 6, v), Due.BAD);
        }
        due.is("promise 8: v is -1, and there is none", x.entry(0, 6, -1), Due.STATE);
        due.is("promise 8: v is -1, and there is none in that CHART", x.entry(1, 5, -1), Due.STATE);
        due.is("promise 8: refused, one ENTRY", x.count(3), 1);
        due.is("promise 8: refused, the ENTRY is as it was", x.read(0, 5), 50);
        due.is("promise 8: refused, none in CHART 1", x.count(4), 0);
        due.is("promise 8: refused, none in CHART 2", x.count(5), 0);
    }

    private static void tenEntriesAndNoMore() {
        for (int chart = 0; chart < 3; chart++) {
            CranePads x = new CranePads();
            for (int i = 0; i < 10; i++) {
                due.is("promise 8: how many", x.entry(chart, 6 * i, 100 + i), i + 1);
            }
            due.is("promise 8: FULL", x.entry(chart, 60, 7), Due.FULL);
            due.is("promise 8: FULL, between two", x.entry(chart, 1, 7), Due.FULL);
            due.is("promise 8: REACH is named ahead of FULL", x.entry(chart, 61, 7), Due.BAD);
            due.is("promise 8: v is named ahead of FULL", x.entry(chart, 60, 10000), Due.BAD);
            due.is("promise 8: STATE is named ahead of FULL", x.entry(chart, 60, -1), Due.STATE);
            due.is("promise 8: FULL changes nothing", x.read(chart, 60), 0);
            due.is("promise 8: FULL changes nothing", x.read(chart, 1), 100);
            due.is("promise 8: one that is there, though full", x.entry(chart, 54, 0), 10);
            due.is("promise 9: one that is there, though full", x.read(chart, 54), 0);
            due.is("promise 8: one goes", x.entry(chart, 0, -1), 9);
            due.is("promise 8: so another comes", x.entry(chart, 60, 9999), 10);
            due.is("promise 8: FULL again", x.entry(chart, 0, 1), Due.FULL);
            due.is("promise 8: another CHART isn't", x.entry((chart + 1) % 3, 0, 1), 1);
        }
    }

    // ---- promise 9

    private static void readBetweenAheadAndBehind() {
        CranePads x = new CranePads();
        x.entry(2, 7, 9);
        x.entry(2, 5, 10);
        due.is("promise 9: the document's own, 10 at 5, 9 at 7", x.read(2, 6), 9);
        due.is("promise 9: the first", x.read(2, 5), 10);
        due.is("promise 9: just ahead of the first", x.read(2, 4), 10);
        due.is("promise 9: far ahead of the first", x.read(2, 0), 10);
        due.is("promise 9: the last", x.read(2, 7), 9);
        due.is("promise 9: just behind the last", x.read(2, 8), 0);
        due.is("promise 9: far behind the last", x.read(2, 60), 0);
        x.entry(2, 8, 300);
        due.is("promise 9: side by side", x.read(2, 7), 9);
        due.is("promise 9: side by side", x.read(2, 8), 300);
        due.is("promise 9: the two beside it, not the outer ones", x.read(2, 6), 9);
        x.entry(2, 7, -1);
        due.is("promise 9: (10 * 2 + 300 * 1) / 3, cut", x.read(2, 6), 106);
        due.is("promise 9: (10 * 1 + 300 * 2) / 3, cut", x.read(2, 7), 203);
    }

    private static void readOverTheWholeReach() {
        CranePads x = new CranePads();
        x.entry(0, 0, 9999);
        due.is("promise 9: one ENTRY at 0", x.read(0, 0), 9999);
        due.is("promise 9: behind 0", x.read(0, 1), 0);
        x.entry(0, 60, 0);
        due.is("promise 9: 9999 * 59 / 60, cut", x.read(0, 1), 9832);
        due.is("promise 9: 9999 / 60, cut", x.read(0, 59), 166);
        due.is("promise 9: an ENTRY of 0 at 60", x.read(0, 60), 0);
        x.entry(1, 60, 9999);
        due.is("promise 9: one ENTRY at 60", x.read(1, 60), 9999);
        due.is("promise 9: ahead of 60", x.read(1, 0), 9999);
        x.entry(1, 0, 0);
        due.is("promise 9: an ENTRY of 0 at 0", x.read(1, 0), 0);
        due.is("promise 9: 9999 / 60, cut", x.read(1, 1), 166);
        due.is("promise 9: 9999 * 59 / 60, cut", x.read(1, 59), 9832);
    }

    private static void readRefuses() {
        CranePads x = new CranePads();
        x.entry(0, 60, 5);
        int[] noChart = {-1, 3, FAR[0], FAR[1]};
        int[] noReach = {-1, 61, FAR[0], FAR[1]};
        for (int i = 0; i < 4; i++) {
            due.is("promise 9: CHART " + noChart[i], x.read(noChart[i], 5), Due.NONE);
            due.is("promise 9: REACH " + noReach[i], x.read(0, noReach[i]), Due.BAD);
            due.is("promise 9: no CHART is named ahead of REACH", x.read(noChart[i], noReach[i]), Due.NONE);
        }
    }

    // ---- promise 10

    private static void allowedOfEachQuarter() {
        CranePads x = new CranePads();
        x.entry(0, 60, 1000);
        for (int q = 0; q < 4; q++) {
            x.put(10 + q, 10 * (q + 1));
        }
        for (int d = 0; d < 20; d++) {
            due.is("promise 10: DIRECTION " + d + " is of QUARTER " + d / 5, x.allowed(d, 0), 100 * (d / 5 + 1));
        }
        x.put(10, 0);
        due.is("promise 10: PERCENT 0", x.allowed(4, 60), 0);
        x.put(10, 100);
        due.is("promise 10: PERCENT 100", x.allowed(0, 60), 1000);
        x.put(10, 1);
        x.entry(0, 60, 199);
        due.is("promise 10: PERCENT 1 of 199, cut", x.allowed(0, 60), 1);
        x.entry(0, 60, 9999);
        x.put(10, 99);
        due.is("promise 10: PERCENT 99 of 9999, cut", x.allowed(0, 60), 9899);
    }

    private static void allowedIsCutEachTime() {
        CranePads x = new CranePads();
        x.entry(0, 60, 99);
        x.put(6, 9);
        due.is("promise 10: 99 by WIND 9, cut", x.allowed(0, 60), 54);
        x.put(7, 1);
        due.is("promise 10: three quarters of 54, cut", x.allowed(0, 60), 40);
        x.put(7, 2);
        due.is("promise 10: MAGNET, 9 less", x.allowed(0, 60), 31);
        x.put(10, 50);
        due.is("promise 10: PERCENT comes last, cut", x.allowed(0, 60), 15);
        x.put(7, 1);
        due.is("promise 10: PERCENT of a GRAB", x.allowed(0, 60), 20);
        x.put(7, 0);
        due.is("promise 10: PERCENT of a HOOK", x.allowed(0, 60), 27);
        x.put(6, 0);
        x.put(7, 2);
        x.put(10, 100);
        due.is("promise 10: WIND 0, MAGNET as a GRAB", x.allowed(0, 60), 74);
        x.put(6, 1);
        x.put(7, 0);
        due.is("promise 10: 99 by WIND 1, cut", x.allowed(0, 60), 94);
        x.entry(0, 60, 9999);
        due.is("promise 10: 9999 by WIND 1, cut", x.allowed(0, 60), 9499);
    }

    private static void aMagnetIsNotBelowNought() {
        CranePads x = new CranePads();
        x.put(7, 2);
        x.put(6, 3);
        // by WIND 3 and the GRAB: 4 and 3 of 5, 6 and 4 of 8, 3 and 2 of 4
        x.entry(0, 60, 8);
        due.is("promise 10: MAGNET, one above 0", x.allowed(0, 60), 1);
        x.entry(0, 60, 5);
        due.is("promise 10: MAGNET, just 0", x.allowed(0, 60), 0);
        x.entry(0, 60, 4);
        due.is("promise 10: MAGNET, 0 at least", x.allowed(0, 60), 0);
        x.put(6, 9);
        due.is("promise 10: MAGNET in the greatest WIND, 0 at least", x.allowed(0, 60), 0);
        x.entry(0, 60, -1);
        due.is("promise 10: MAGNET without ENTRIES, 0 at least", x.allowed(0, 60), 0);
    }

    private static void allowedReadsTheChartInUse() {
        CranePads x = new CranePads();
        for (int chart = 0; chart < 3; chart++) {
            x.entry(chart, 60, 100 + chart);
        }
        for (int chart = 2; chart >= 0; chart--) {
            x.put(5, chart);
            due.is("promise 10: CHART " + chart + " in use", x.allowed(19, 60), 100 + chart);
        }
    }

    private static void allowedRefuses() {
        CranePads x = Due.firm();
        int[] noDirection = {-1, 20, FAR[0], FAR[1]};
        int[] noReach = {-1, 61, FAR[0], FAR[1]};
        for (int i = 0; i < 4; i++) {
            due.is("promise 10: DIRECTION " + noDirection[i], x.allowed(noDirection[i], 5), Due.NONE);
            due.is("promise 10: REACH " + noReach[i], x.allowed(0, noReach[i]), Due.BAD);
            due.is("promise 10: no DIRECTION is named ahead of REACH", x.allowed(noDirection[i], noReach[i]), Due.NONE);
        }
        due.is("promise 10: DIRECTION 0, REACH 0", x.allowed(0, 0), 9999);
        due.is("promise 10: DIRECTION 19, REACH 60", x.allowed(19, 60), 9999);
    }

    public static void main(String[] args) {
        aNewObjectHoldsNothing();
        whatHoldsAtFirst();
        padTakesLeastAndGreatest();
        padRefusesOneBelowAndOneAbove();
        standingIsStrictForEachThree();
        whatDoesAndDoesNotStand();
        partTakesLeastAndGreatest();
        partRefusesOneBelowAndOneAbove();
        eightPartsAndNoMore();
        massTakesLeastAndGreatest();
        massRefuses();
        putTakesLeastAndGreatest();
        putRefuses();
        padOfAnswersOrNot();
        entryTakesLeastAndGreatest();
        anEntryOfNoughtIsOne();
        entryRefuses();
        tenEntriesAndNoMore();
        readBetweenAheadAndBehind();
        readOverTheWholeReach();
        readRefuses();
        allowedOfEachQuarter();
        allowedIsCutEachTime();
        aMagnetIsNotBelowNought();
        allowedReadsTheChartInUse();
        allowedRefuses();
        due.end();
    }
}
