/** Promises 31 to 41, what ==== 2 and ==== 3 say of them, and the 512 calls: every sentence that names a boundary. */
public final class RowsBoundsTest {
    private static final Due due = new Due();
    private static final int[] NO_LIST = {-1, 4, Due.LEAST_INT, Due.GREATEST_INT};

    private static void fill(CranePads x, int list, int from, long v) {
        for (int k = 0; k < 4; k++) {
            x.set(list, from + k, v);
        }
    }

    /** All in the middle, so every PUSH is a quarter of all. */
    private static CranePads middle(int mass) {
        CranePads x = new CranePads();
        x.put(1, 0);
        x.part(mass, 0, 0, false);
        return x;
    }

    // ---- promise 31

    private static void seenFromTheLeastToTheGreatestLoad() {
        CranePads x = middle(100);
        x.list(0, 4);
        fill(x, 0, 0, 25);
        due.is("promise 31: LOADS 0 to 3", x.seen(0, 0, 0), 4);
        due.is("promise 31: the least is 0", x.seen(0, 0, 1), 0);
        fill(x, 0, 0, 24);
        due.is("promise 31: no LOAD below 0", x.seen(0, 0, 0), 0);
        due.is("promise 31: none, -5", x.seen(0, 0, 1), Due.NOT_SO);
        fill(x, 0, 0, 274);
        due.is("promise 31: LOADS 996 to 999", x.seen(0, 0, 0), 4);
        due.is("promise 31: the least is 996", x.seen(0, 0, 1), 996);
        fill(x, 0, 0, 275);
        due.is("promise 31: no LOAD above 999", x.seen(0, 0, 0), 0);
        due.is("promise 31: no LOAD above 999, -5", x.seen(0, 0, 1), Due.NOT_SO);
        x.mass(0, 101);
        fill(x, 0, 0, 274);
        due.is("promise 31: LOADS 995 to 998", x.seen(0, 0, 0), 4);
        fill(x, 0, 0, 275);
        due.is("promise 31: LOAD 999 alone", x.seen(0, 0, 0), 1);
        due.is("promise 31: LOAD 999", x.seen(0, 0, 1), 999);
        x.put(3, 9999);
        due.is("promise 31: the LOAD as it is doesn't count", x.seen(0, 0, 1), 999);
        due.is("promise 31: in thought", x.told(3), 9999);
    }

    private static void eachOfTheFourIsLookedAt() {
        for (int k = 0; k < 4; k++) {
            CranePads x = middle(100);
            x.list(3, 30);
            fill(x, 3, 26, 30);
            due.is("promise 31: the last four places", x.seen(3, 26, 0), 4);
            due.is("promise 31: the last four places", x.seen(3, 26, 1), 20);
            x.set(3, 26 + k, 31);
            due.is("promise 31: place " + k + " of four is one more", x.seen(3, 26, 0), 0);
            x.set(3, 26 + k, 29);
            due.is("promise 31: place " + k + " of four is one less", x.seen(3, 26, 0), 0);
            x.set(3, 26 + k, 30 + (1L << 32));
            due.is("promise 31: place " + k + " of four is far more", x.seen(3, 26, 0), 0);
            x.set(3, 26 + k, Due.NO);
            due.is("promise 31: place " + k + " of four is the least long", x.seen(3, 26, 1), Due.NOT_SO);
        }
    }

    private static void seenFromEachPlace() {
        CranePads x = middle(100);
        x.list(2, 7);
        for (int i = 0; i < 4; i++) {
            fill(x, 2, i, 30 + i);
            due.is("promise 31: from " + i + " on in a row of 7", x.seen(2, i, 1), 20 + 4 * i);
        }
        due.is("promise 31: from 4 on in a row of 7", x.seen(2, 4, 1), Due.BEYOND);
        due.is("promise 31: four that aren't alike", x.seen(2, 0, 1), Due.NOT_SO);
    }

    private static void seenWithoutPushes() {
        CranePads x = new CranePads();
        x.put(1, 0);
        x.list(0, 4);
        due.is("promise 31: LOAD 0 has no PUSHES, 1 to 3 are cut to 0", x.seen(0, 0, 0), 3);
        due.is("promise 31: the least is 1", x.seen(0, 0, 1), 1);
        x.put(2, 1);
        due.is("promise 31: with a HOOK, LOADS 0 to 2", x.seen(0, 0, 0), 3);
        due.is("promise 31: with a HOOK, the least is 0", x.seen(0, 0, 1), 0);
        x.put(1, 60);
        due.is("promise 31: it TIPS with each", x.seen(0, 0, 0), 0);
        due.is("promise 31: it TIPS with each, -5", x.seen(0, 0, 1), Due.NOT_SO);
        CranePads y = middle(100);
        y.list(0, 4);
        fill(y, 0, 0, 25);
        y.pad(0, 10, 10, 0);
        due.is("promise 31: a LIMIT and what is ALLOWED don't count", y.seen(0, 0, 0), 4);
        y.pad(0, 0, 0, 0);
        due.is("promise 31: it doesn't STAND", y.seen(0, 0, 0), 0);
    }

    private static void seenRefuses() {
        CranePads x = middle(100);
        x.list(0, 4);
        x.list(1, 3);
        x.list(2, 0);
        int[] noWhat = {-1, 2, Due.LEAST_INT, Due.GREATEST_INT};
        for (int i = 0; i < 4; i++) {
            due.is("promise 31: LIST " + NO_LIST[i], x.seen(NO_LIST[i], 0, 0), Due.NONE);
            due.is("promise 31: what " + noWhat[i], x.seen(0, 0, noWhat[i]), Due.NONE);
            due.is("promise 31: what " + noWhat[i] + " is named ahead of NOTHING", x.seen(3, 0, noWhat[i]), Due.NONE);
            due.is("promise 31: what " + noWhat[i] + " is named ahead of BEYOND", x.seen(0, 9, noWhat[i]), Due.NONE);
            due.is("promise 31: LIST " + NO_LIST[i] + " is named ahead of BEYOND", x.seen(NO_LIST[i], -1, 0), Due.NONE);
        }
        due.is("promise 31: NOTHING", x.seen(3, 0, 0), Due.NOTHING);
        due.is("promise 31: NOTHING is named ahead of BEYOND", x.seen(3, -1, 1), Due.NOTHING);
        int[] beyond = {-1, 1, 4, 30, Due.LEAST_INT, Due.GREATEST_INT, Due.GREATEST_INT - 3};
        for (int i : beyond) {
            due.is("promise 31: from " + i + " on in a row of 4", x.seen(0, i, 0), Due.BEYOND);
            due.is("promise 31: from " + i + " on, BEYOND is named ahead of -5", x.seen(0, i, 1), Due.BEYOND);
        }
        due.is("promise 31: a row of 3", x.seen(1, 0, 0), Due.BEYOND);
        due.is("promise 31: a row of 0", x.seen(2, 0, 0), Due.BEYOND);
        due.is("promise 31: a row of 4", x.seen(0, 0, 0), 0);
    }

    // ---- promise 32

    private static void layFromEachPlace() {
        for (int i = 0; i <= 6; i++) {
            CranePads x = middle(103);
            x.list(1, 6);
            int places = Math.max(0, Math.min(4, 6 - i));
            due.is("promise 32: from " + i + " on in a row of 6", x.lay(1, i), places == 4 ? 4 : Due.BEYOND);
            for (int at = 0; at < 6; at++) {
                boolean laid = at >= i && at < i + 4;
                due.is("promise 32: place " + at + ", laid from " + i + " on", x.get(1, at), laid ? 25 : 0);
            }
        }
    }

    private static void layTellsEachPadCut() {
        CranePads x = new CranePads();
        x.part(100, 1, 3, false);
        x.list(0, 30);
        // 25 times (1 + (X + 3 Y) / 10) with the signs of X and Y
        due.is("promise 32: the last four places", x.lay(0, 26), 4);
        int[] pushes = {35, 30, 15, 20};
        for (int k = 0; k < 4; k++) {
            due.is("promise 32: PAD " + k, x.get(0, 26 + k), pushes[k]);
        }
        x.mass(0, 101);
        due.is("promise 32: over what was there", x.lay(0, 26), 4);
        for (int k = 0; k < 4; k++) {
            due.is("promise 32: PAD " + k + ", a hundredth more is cut", x.get(0, 26 + k), pushes[k]);
        }
        x.mass(0, 99);
        x.lay(0, 0);
        for (int k = 0; k < 4; k++) {
            due.is("promise 32: PAD " + k + ", a hundredth less is cut", x.get(0, k), pushes[k] - 1);
        }
        CranePads y = new CranePads();
        y.part(100, 6, 5, false);
        y.list(0, 4);
        y.lay(0, 0);
        int[] three = {55, 20, 0, 25};
        for (int k = 0; k < 4; k++) {
            due.is("promise 32: PAD " + k + ", one is LIFTED", y.get(0, k), three[k]);
        }
    }

    private static void layBelowNought() {
        int[] below = {-1, -2, -3, -4, Due.LEAST_INT};
        for (int i : below) {
            CranePads x = middle(100);
            x.list(0, 5);
            due.is("promise 32: from " + i + " on", x.lay(0, i), Due.BEYOND);
            for (int at = 0; at < 5; at++) {
                due.is("promise 32: none is laid from " + i + " on", x.get(0, at), 0);
            }
        }
    }

    private static void layRefuses() {
        CranePads x = middle(100);
        for (int no : NO_LIST) {
            due.is("promise 32: LIST " + no, x.lay(no, 0), Due.NONE);
            due.is("promise 32: LIST " + no + " is named ahead of BEYOND", x.lay(no, -1), Due.NONE);
            due.is("promise 32: LIST " + no + " is named ahead of no PUSHES", new CranePads().lay(no, 0), Due.NONE);
        }
        due.is("promise 32: NOTHING", x.lay(2, 0), Due.NOTHING);
        due.is("promise 32: NOTHING is named ahead of BEYOND", x.lay(2, -1), Due.NOTHING);
        due.is("promise 32: NOTHING is named ahead of no PUSHES", new CranePads().lay(2, 0), Due.NOTHING);
        x.list(2, 0);
        due.is("promise 32: a row of 0", x.lay(2, 0), Due.BEYOND);
        due.is("promise 32: far behind", x.lay(2, Due.GREATEST_INT), Due.BEYOND);
        CranePads y = new CranePads();
        y.list(0, 4);
        y.set(0, 0, 7);
        due.is("promise 32: W is 0", y.lay(0, 0), Due.STATE);
        due.is("promise 32: no PUSHES is named ahead of BEYOND", y.lay(0, 1), Due.STATE);
        due.is("promise 32: no PUSHES is named ahead of BEYOND", y.lay(0, -1), Due.STATE);
        y.part(5, 11, 0, false);
        due.is("promise 32: it TIPS", y.lay(0, 0), Due.STATE);
        y.pad(0, 0, 0, 0);
        due.is("promise 32: it doesn't STAND", y.lay(0, 0), Due.STATE);
        due.is("promise 32: nothing is laid", y.get(0, 0), 7);
        due.is("promise 32: nothing is laid", y.get(0, 1), 0);
    }

    // ---- promises 33 to 35

    private static void keep(CranePads x, int load, int direction, int reach, int size) {
        x.put(0, direction);
        x.put(1, reach);
        x.put(3, load);
        due.is("promise 33: how many it has", x.book(), size);
    }

    private static void theEldestGoes() {
        CranePads x = new CranePads();
        due.is("promise 35: the BOOK is empty", x.heaviest(), Due.NOT_SO);
        for (int i = 0; i < 8; i++) {
            keep(x, 100 + i, i, 10 + i, i + 1);
        }
        for (int i = 0; i < 8; i++) {
            due.is("promise 34: LOAD of " + i, x.booked(i, 0), 100 + i);
        }
        due.is("promise 35: the last of eight", x.heaviest(), 7);
        keep(x, 9999, 19, 60, 8);
        due.is("promise 34: the eldest went", x.booked(0, 0), 101);
        due.is("promise 34: the newest, LOAD", x.booked(7, 0), 9999);
        due.is("promise 34: the newest, DIRECTION", x.booked(7, 1), 19);
        due.is("promise 34: the newest, REACH", x.booked(7, 2), 60);
        for (int i = 0; i < 7; i++) {
            due.is("promise 34: one ahead, LOAD", x.booked(i, 0), 101 + i);
            due.is("promise 34: one ahead, DIRECTION", x.booked(i, 1), 1 + i);
            due.is("promise 34: one ahead, REACH", x.booked(i, 2), 11 + i);
        }
        for (int i = 0; i < 8; i++) {
            keep(x, 0, 0, 0, 8);
            due.is("promise 35: it comes one nearer to the eldest", x.heaviest(), i < 7 ? 6 - i : 0);
        }
        due.is("promise 34: all of them went", x.booked(0, 0), 0);
    }

    private static void bookedRefuses() {
        CranePads x = Due.firm();
        due.is("promise 34: the BOOK is empty", x.booked(0, 0), Due.NONE);
        due.is("promise 34: the BOOK is empty, what 3", x.booked(0, 3), Due.NONE);
        keep(x, 5, 3, 7, 1);
        keep(x, 0, 0, 0, 2);
        int[] none = {-1, 2, 7, 8, Due.LEAST_INT, Due.GREATEST_INT};
        for (int i : none) {
            for (int what = 0; what < 4; what++) {
                due.is("promise 34: no " + i + " in a BOOK of two", x.booked(i, what), Due.NONE);
            }
        }
        int[] noWhat = {-1, 4, Due.LEAST_INT, Due.GREATEST_INT};
        for (int what : noWhat) {
            due.is("promise 34: what " + what, x.booked(0, what), Due.NONE);
            due.is("promise 34: neither", x.booked(2, what), Due.NONE);
        }
        due.is("promise 34: the eldest", x.booked(0, 0), 5);
        due.is("promise 34: the last", x.booked(1, 2), 0);
    }

    private static void bookedMayBeSoNow() {
        CranePads x = new CranePads();
        x.entry(0, 60, 100);
        x.part(900, 0, 0, false);
        keep(x, 100, 4, 5, 1);
        keep(x, 101, 4, 5, 2);
        keep(x, 0, 9, 60, 3);
        due.is("promise 34: just ALLOWED", x.booked(0, 3), 1);
        due.is("promise 34: one above ALLOWED", x.booked(1, 3), 0);
        due.is("promise 34: LOAD 0 at 60", x.booked(2, 3), 1);
        x.put(2, 1);
        due.is("promise 34: the HOOK as it is now", x.booked(0, 3), 0);
        x.put(2, 0);
        x.put(10, 99);
        due.is("promise 34: its own QUARTER as it is now", x.booked(0, 3), 0);
        due.is("promise 34: another QUARTER doesn't count", x.booked(2, 3), 1);
        x.pad(0, 0, 0, 0);
        due.is("promise 34: it doesn't STAND now", x.booked(2, 3), 0);
        due.is("promise 34: in thought", x.told(3) * 10000 + x.told(0) * 100 + x.told(1), 960);
    }

    /** At DIRECTION 0 a LOAD of 900 MAY up to REACH 20, at DIRECTION 2 up to 25. */
    private static void eachOfABookedLiftCounts() {
        CranePads x = Due.firm();
        keep(x, 900, 0, 20, 1);
        keep(x, 900, 0, 21, 2);
        keep(x, 900, 2, 21, 3);
        keep(x, 899, 0, 21, 4);
        keep(x, 818, 0, 21, 5);
        int[] may = {1, 0, 1, 0, 1};
        for (int turn = 0; turn < 2; turn++) {
            for (int i = 0; i < 5; i++) {
                due.is("promise 34: its own LOAD, DIRECTION and REACH, " + i, x.booked(i, 3), may[i]);
            }
            x.put(0, 5);
            x.put(1, 60);
            x.put(3, 9999);
        }
    }

    private static void theHeaviest() {
        CranePads x = new CranePads();
        keep(x, 0, 0, 60, 1);
        due.is("promise 35: one with 0 is one", x.heaviest(), 0);
        keep(x, 9999, 0, 0, 2);
        due.is("promise 35: of two with 0 the eldest", x.heaviest(), 0);
        keep(x, 1, 0, 1, 3);
        due.is("promise 35: one above 0", x.heaviest(), 2);
        keep(x, 30, 0, 20, 4);
        keep(x, 20, 0, 30, 5);
        keep(x, 600, 0, 1, 6);
        due.is("promise 35: of several with 600 the eldest", x.heaviest(), 3);
        keep(x, 601, 0, 1, 7);
        due.is("promise 35: one more than they", x.heaviest(), 6);
        keep(x, 9999, 0, 60, 8);
        due.is("promise 35: the greatest of all", x.heaviest(), 7);
        x.put(2, 999);
        x.put(3, 0);
        x.put(1, 60);
        due.is("promise 33: the newest", x.book(), 8);
        due.is("promise 35: the HOOK doesn't count", x.heaviest(), 6);
    }

    // ---- promises 36 to 38

    private static void listTakesLeastAndGreatest() {
        for (int list = 0; list < 4; list++) {
            CranePads x = new CranePads();
            due.is("promise 38: nothing there", x.get(list, 0), Due.NO);
            due.is("promise 37: NOTHING", x.set(list, 0, 5), Due.NOTHING);
            due.is("promise 37: NOTHING is named ahead of BEYOND", x.set(list, -1, 5), Due.NOTHING);
            due.is("promise 36: a row of 0", x.list(list, 0), 1);
            due.is("promise 37: a row of 0 has no place", x.set(list, 0, 5), Due.BEYOND);
            due.is("promise 38: a row of 0 has no place", x.get(list, 0), Due.NO);
            due.is("promise 36: a row of 1", x.list(list, 1), 1);
            due.is("promise 37: its place", x.set(list, 0, 5), 1);
            due.is("promise 37: no second place", x.set(list, 1, 5), Due.BEYOND);
            due.is("promise 36: a row of 30", x.list(list, 30), 1);
            for (int i = 0; i < 30; i++) {
                due.is("promise 36: all 0, place " + i, x.get(list, i), 0);
                due.is("promise 37: place " + i, x.set(list, i, 100 + i), 1);
            }
            due.is("promise 37: no place 30", x.set(list, 30, 5), Due.BEYOND);
            due.is("promise 38: no place 30", x.get(list, 30), Due.NO);
            for (int i = 0; i < 30; i++) {
                due.is("promise 38: place " + i, x.get(list, i), 100 + i);
            }
            due.is("promise 36: a row anew", x.list(list, 29), 1);
            due.is("promise 36: all 0 anew", x.get(list, 28), 0);
            due.is("promise 38: no place 29", x.get(list, 29), Due.NO);
            due.is("promise 37: the next LIST holds nothing still", x.set((list + 1) % 4, 0, 1), Due.NOTHING);
        }
    }

    private static void listRefuses() {
        CranePads x = new CranePads();
        x.list(0, 2);
        x.set(0, 1, 77);
        int[] above = {31, 32, Due.GREATEST_INT};
        int[] below = {-1, -2, Due.LEAST_INT};
        for (int i = 0; i < 3; i++) {
            due.is("promise 36: n " + above[i], x.list(0, above[i]), Due.BAD);
            due.is("promise 36: n " + below[i], x.list(0, below[i]), Due.BELOW);
            due.is("promise 36: n " + above[i] + " of one that holds nothing", x.list(1, above[i]), Due.BAD);
            due.is("promise 36: n " + below[i] + " of one that holds nothing", x.list(1, below[i]), Due.BELOW);
        }
        for (int no : NO_LIST) {
            due.is("promise 36: LIST " + no, x.list(no, 5), Due.NONE);
            due.is("promise 36: LIST " + no + " is named ahead of BAD", x.list(no, 31), Due.NONE);
            due.is("promise 36: LIST " + no + " is named ahead of BELOW", x.list(no, -1), Due.NONE);
        }
        due.is("promise 36: refused, the row is as it was", x.get(0, 1), 77);
        due.is("promise 36: refused, the row is as long as it was", x.get(0, 2), Due.NO);
        due.is("promise 36: refused, LIST 1 holds nothing", x.set(1, 0, 1), Due.NOTHING);
    }

    private static void setAndGetRefuse() {
        CranePads x = new CranePads();
        x.list(3, 3);
        int[] beyond = {-1, 3, 29, 30, Due.LEAST_INT, Due.GREATEST_INT};
        for (int i : beyond) {
            due.is("promise 37: place " + i + " of 3", x.set(3, i, 5), Due.BEYOND);
            due.is("promise 38: place " + i + " of 3", x.get(3, i), Due.NO);
            due.is("promise 38: place " + i + " of nothing", x.get(2, i), Due.NO);
        }
        for (int no : NO_LIST) {
            due.is("promise 37: LIST " + no, x.set(no, 0, 5), Due.NONE);
            due.is("promise 37: LIST " + no + " is named ahead of BEYOND", x.set(no, -1, 5), Due.NONE);
            due.is("promise 38: LIST " + no, x.get(no, 0), Due.NO);
        }
        for (int i = 0; i < 3; i++) {
            due.is("promise 37: refused, place " + i + " is 0", x.get(3, i), 0);
        }
        due.is("promise 37: the greatest long", x.set(3, 0, Long.MAX_VALUE), 1);
        due.is("promise 37: the least long", x.set(3, 2, Long.MIN_VALUE), 1);
        due.is("promise 38: the greatest long", x.get(3, 0), Long.MAX_VALUE);
        due.is("promise 38: the least long", x.get(3, 2), Long.MIN_VALUE);
        due.is("promise 38: between them", x.get(3, 1), 0);
    }

    // ---- promise 39

    private static void countsEmptyAndFull() {
        CranePads x = new CranePads();
        for (int what = 0; what <= 5; what++) {
            due.is("promise 39: what " + what + ", empty", x.count(what), 0);
        }
        due.is("promise 39: it STANDS", x.count(6), 1);
        int[] none = {-1, 7, Due.LEAST_INT, Due.GREATEST_INT};
        for (int what : none) {
            due.is("promise 39: what " + what, x.count(what), Due.NONE);
        }
        for (int i = 0; i < 8; i++) {
            x.part(1, 0, 0, false);
        }
        Due.plan(x, Due.times(24, "set;") + "set");
        Due.feed(x, Due.times(100, "a"));
        for (int i = 0; i < 30; i++) {
            x.entry(i % 3, i, 1);
        }
        x.pad(0, 0, 0, 0);
        int[] full = {8, 100, 25, 10, 10, 10, 0};
        for (int what = 0; what < 7; what++) {
            due.is("promise 39: what " + what + ", full", x.count(what), full[what]);
        }
    }

    // ---- promises 40 and 41

    private static void anImageOfAllAtItsGreatest() {
        CranePads x = new CranePads();
        due.is("promise 41: there is none", x.undo(), Due.STATE);
        due.is("promise 40: of no PARTS", x.image(), 0);
        for (int i = 0; i < 8; i++) {
            x.part(1 + i, 0, 0, false);
            x.entry(2, i, 9);
        }
        due.is("promise 41: no PARTS again", x.undo(), 0);
        due.is("promise 39: no PARTS again", x.count(0), 0);
        due.is("promise 39: no ENTRIES again", x.count(5), 0);
        due.is("promise 11: W is 0 again", x.weight(), 0);
        due.is("promise 3: the next PART is 0 again", x.part(50, 1, 1, true), 0);
        for (int i = 1; i < 8; i++) {
            x.part(50 + i, 1, 1, true);
        }
        due.is("promise 40: of eight PARTS", x.image(), 8);
        due.is("promise 3: FULL", x.part(1, 0, 0, false), Due.FULL);
        x.mass(7, 999);
        due.is("promise 41: eight PARTS", x.undo(), 8);
        due.is("promise 4: MASS as it was", x.mass(7, 1), 57);
        due.is("promise 3: FULL still", x.part(1, 0, 0, false), Due.FULL);
        due.is("promise 41: again", x.undo(), 8);
        due.is("promise 4: MASS as it was, again", x.mass(7, 1), 57);
    }

    private static void allOfOneIsInTheImage() {
        CranePads x = new CranePads();
        int[] dials = {0, 1, 2, 3, 4, 5, 6, 7, 10, 11, 12, 13};
        int[] then = {7, 8, 9, 10, 11, 2, 3, 1, 14, 15, 16, 17};
        for (int i = 0; i < dials.length; i++) {
            x.put(dials[i], then[i]);
        }
        for (int k = 0; k < 4; k++) {
            x.pad(k, (11 + k) * Due.OUT_X[k], (12 + k) * Due.OUT_Y[k], 100 + k);
            x.entry(k % 3, 20 + k, 30 + k);
        }
        x.part(40, 1, 2, true);
        due.is("promise 40: one PART", x.image(), 1);
        for (int i = 0; i < dials.length; i++) {
            x.put(dials[i], dials[i] == 4 ? 1 : 0);
        }
        for (int k = 0; k < 4; k++) {
            x.pad(k, 0, 0, 0);
            x.entry(k % 3, 20 + k, -1);
        }
        x.mass(0, 1);
        x.part(2, 3, 4, false);
        due.is("promise 41: one PART", x.undo(), 1);
        for (int i = 0; i < dials.length; i++) {
            due.is("promise 41: what " + dials[i], x.told(dials[i]), then[i]);
        }
        for (int k = 0; k < 4; k++) {
            due.is("promise 41: X of PAD " + k, x.padOf(k, 0), (11 + k) * Due.OUT_X[k]);
            due.is("promise 41: Y of PAD " + k, x.padOf(k, 1), (12 + k) * Due.OUT_Y[k]);
            due.is("promise 41: LIMIT of PAD " + k, x.padOf(k, 2), 100 + k);
            due.is("promise 41: ENTRY " + k, x.read(k % 3, 20 + k), 30 + k);
        }
        due.is("promise 41: it STANDS", x.count(6), 1);
        due.is("promise 41: ENTRIES of CHART 0", x.count(3), 2);
        due.is("promise 41: ENTRIES of CHART 1", x.count(4), 1);
        due.is("promise 41: ENTRIES of CHART 2", x.count(5), 1);
        due.is("promise 41: W", x.weight(), 40 + 9 + 10);
        due.is("promise 41: MASS", x.mass(0, 1), 40);
    }

    /** The PLAN, BOOK, LISTS, THE TAPE aren't in it: neither those at the time nor what came behind is lost. */
    private static void whatIsNotInTheImage() {
        CranePads x = Due.firm();
        Due.plan(x, "set");
        Due.feed(x, "se");
        x.book();
        x.list(0, 2);
        x.set(0, 1, 5);
        due.is("promise 40: taken", x.image(), 1);
        x.feed('t');
        x.put(3, 44);
        x.book();
        x.set(0, 0, 6);
        x.list(1, 0);
        due.is("promise 41: back", x.undo(), 1);
        due.is("promise 41: LOAD is as it was", x.told(3), 0);
        due.is("promise 41: THE TAPE stays", x.count(1), 3);
        due.is("promise 41: the PLAN stays", x.count(2), 1);
        due.is("promise 41: the BOOK stays", x.booked(1, 0), 44);
        due.is("promise 41: a place of a LIST stays", x.get(0, 0), 6);
        due.is("promise 41: a row of 0 stays", x.set(1, 0, 1), Due.BEYOND);
        Due.feed(x, ";slew 2");
        due.is("promise 26: THE TAPE as it stayed", x.plan(), 2);
        due.is("promise 41: back again", x.undo(), 1);
        due.is("promise 41: the later PLAN stays", x.count(2), 2);
    }

    /** PADS that are no square, a PART that turns: undo brings back what they bear, not only what was told. */
    private static void whatFollowsFromTheImage() {
        CranePads x = new CranePads();
        x.pad(0, 20, 10, 9999);
        x.pad(1, -10, 15, 9999);
        x.pad(2, -12, -10, 9999);
        x.pad(3, 13, -14, 9999);
        x.part(100, 3, -2, true);
        x.put(0, 7);
        long[] before = new long[12];
        borne(x, before, 0);
        x.image();
        x.part(50, 5, 5, true);
        x.part(60, 1, -3, false);
        for (int k = 0; k < 4; k++) {
            x.pad(k, 10 * Due.OUT_X[k], 10 * Due.OUT_Y[k], 9999);
        }
        borne(x, before, 4);
        due.is("promise 41: one PART", x.undo(), 1);
        borne(x, before, 8);
        for (int k = 0; k < 4; k++) {
            due.is("promise 15: it was another PUSH of PAD " + k, before[4 + k] == before[k] ? 1 : 0, 0);
            due.is("promise 41: PUSH of PAD " + k + " is as it was", before[8 + k], before[k]);
        }
        due.is("promise 3: the next PART", x.part(9, 40, 0, true), 1);
        due.is("promise 11: W", x.weight(), 109);
        // DIRECTION 7 is (-3/5, 4/5)
        due.fraction("promise 12: X", x.centre(0, 0), x.centre(0, 1), 100 * -1 + 9 * -120, 5 * 109);
        due.fraction("promise 12: Y", x.centre(1, 0), x.centre(1, 1), 100 * 18 + 9 * 160, 5 * 109);
    }

    private static void borne(CranePads x, long[] into, int from) {
        for (int k = 0; k < 4; k++) {
            into[from + k] = x.push(k, 0);
        }
    }

    // ---- the 512 calls

    /** The dearest calls, 512 of them: the last is answered as the first. */
    private static void fiveHundredAndTwelveCalls() {
        CranePads x = Due.firm();
        due.is("512 calls: one way of 70", x.put(1, 60), 5);
        for (int call = 4; call <= 512; call++) {
            due.is("512 calls: call " + call, x.way(10, 0), 70);
        }
        CranePads y = middle(100);
        y.list(0, 4);
        fill(y, 0, 0, 274);
        for (int call = 8; call <= 512; call++) {
            due.is("512 calls: call " + call, y.seen(0, 0, 1), 996);
        }
        CranePads z = Due.firm();
        for (int call = 3; call <= 512; call++) {
            due.is("512 calls: call " + call, z.book(), Math.min(8, call - 2));
        }
    }

    public static void main(String[] args) {
        seenFromTheLeastToTheGreatestLoad();
        eachOfTheFourIsLookedAt();
        seenFromEachPlace();
        seenWithoutPushes();
        seenRefuses();
        layFromEachPlace();
        layTellsEachPadCut();
        layBelowNought();
        layRefuses();
        theEldestGoes();
        bookedRefuses();
        bookedMayBeSoNow();
        eachOfABookedLiftCounts();
        theHeaviest();
        listTakesLeastAndGreatest();
        listRefuses();
        setAndGetRefuse();
        countsEmptyAndFull();
        anImageOfAllAtItsGreatest();
        allOfOneIsInTheImage();
        whatIsNotInTheImage();
        whatFollowsFromTheImage();
        fiveHundredAndTwelveCalls();
        due.end();
    }
}
