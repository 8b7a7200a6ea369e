import java.util.function.Supplier;
import java.util.function.ToLongFunction;

/**
 * What is answered by NONE, BAD, STATE, FULL, NO, NOTHING, BEYOND or BELOW changes nothing, and what is asked changes
 * nothing: each such call is told to one of two cranes that were made alike, and both must answer alike from then on.
 */
public final class RefusedTest {
    private static final Due due = new Due();
    private static Supplier<CranePads> making;
    private static Witness untouched;

    private static void on(Supplier<CranePads> make) {
        making = make;
        untouched = Witness.of(make.get());
    }

    private static void refused(String what, long answer, ToLongFunction<CranePads> call) {
        CranePads x = making.get();
        due.is(what, call.applyAsLong(x), answer);
        unchanged(what, x);
    }

    private static void asked(String what, ToLongFunction<CranePads> call) {
        CranePads x = making.get();
        long first = call.applyAsLong(x);
        due.is(what + ", asked twice", call.applyAsLong(x), first);
        unchanged(what, x);
    }

    private static void unchanged(String what, CranePads x) {
        String changed = untouched.differsFrom(Witness.of(x));
        if (changed != null) {
            System.out.println(what + " changed something: " + changed);
        }
        due.is(what + " changes nothing", changed == null ? 0 : 1, 0);
    }

    private static void whatIsTold() {
        refused("promise 2: no PAD", Due.NONE, x -> x.pad(4, 1, 1, 1));
        refused("promise 2: a bad X", Due.BAD, x -> x.pad(0, 31, 1, 1));
        refused("promise 2: a bad Y", Due.BAD, x -> x.pad(1, 1, -31, 1));
        refused("promise 2: a bad LIMIT", Due.BAD, x -> x.pad(3, 1, 1, 10000));
        refused("promise 3: a bad MASS", Due.BAD, x -> x.part(1000, 1, 1, true));
        refused("promise 3: a bad A", Due.BAD, x -> x.part(10, -41, 1, true));
        refused("promise 3: a bad B", Due.BAD, x -> x.part(10, 1, 41, false));
        refused("promise 4: no PART", Due.NONE, x -> x.mass(x.count(0), 5));
        refused("promise 4: a bad MASS", Due.BAD, x -> x.mass(0, 0));
        refused("promise 5: what 8", Due.NONE, x -> x.put(8, 1));
        refused("promise 5: what 9", Due.NONE, x -> x.put(9, 1));
        refused("promise 5: what 14", Due.NONE, x -> x.put(14, 1));
        int[] above = {20, 61, 1000, 10000, 1000, 3, 10, 3, 0, 0, 101, 101, 101, 101};
        for (int i = 0; i < 14; i++) {
            int what = i;
            if (what != 8 && what != 9) {
                refused("promise 5: one above, what " + what, Due.BAD, x -> x.put(what, above[what]));
                refused("promise 5: one below, what " + what, Due.BAD, x -> x.put(what, what == 4 ? 0 : -1));
            }
        }
        refused("promise 6: what 8", Due.NONE, x -> x.told(8));
        refused("promise 7: no PAD", Due.NO, x -> x.padOf(4, 0));
        refused("promise 7: no what", Due.NO, x -> x.padOf(0, 3));
        refused("promise 8: no CHART", Due.NONE, x -> x.entry(3, 5, 5));
        refused("promise 8: a bad REACH", Due.BAD, x -> x.entry(0, 61, 5));
        refused("promise 8: a bad v", Due.BAD, x -> x.entry(0, 4, 10000));
        refused("promise 8: v -2", Due.BAD, x -> x.entry(0, 4, -2));
        refused("promise 8: none goes", Due.STATE, x -> x.entry(0, 5, -1));
        refused("promise 9: no CHART", Due.NONE, x -> x.read(3, 5));
        refused("promise 9: a bad REACH", Due.BAD, x -> x.read(0, 61));
        refused("promise 10: no DIRECTION", Due.NONE, x -> x.allowed(20, 5));
        refused("promise 10: a bad REACH", Due.BAD, x -> x.allowed(0, 61));
    }

    private static void asItIsAndInThought() {
        refused("promise 12: no what", Due.NO, x -> x.centre(2, 0));
        refused("promise 12: no part", Due.NO, x -> x.centre(0, 2));
        refused("promise 13: no EDGE", Due.NO, x -> x.moment(4, 0));
        refused("promise 13: no part", Due.NO, x -> x.moment(0, 2));
        refused("promise 14: no EDGE", Due.NO, x -> x.factor(4, 0));
        refused("promise 14: no part", Due.NO, x -> x.factor(0, 2));
        refused("promise 15: no PAD", Due.NO, x -> x.push(4, 0));
        refused("promise 15: no part", Due.NO, x -> x.push(0, 2));
        refused("promise 17: no PAD", Due.NONE, x -> x.mat(4));
        refused("promise 20: a bad REACH", Due.BAD, x -> x.where(61));
        refused("promise 21: no DIRECTION", Due.NONE, x -> x.farthest(20));
        refused("promise 22: no DIRECTION", Due.NONE, x -> x.way(20, 5));
        refused("promise 22: a bad REACH", Due.BAD, x -> x.way(0, 61));
        refused("promise 23: no PART", Due.NONE, x -> x.ballast(x.count(0)));
    }

    private static void plansAndRows() {
        refused("promise 24: byte 0", Due.BAD, x -> x.feed(0));
        refused("promise 24: byte 128", Due.BAD, x -> x.feed(128));
        refused("promise 27: what 4", Due.NONE, x -> x.checked(4));
        refused("promise 31: no LIST", Due.NONE, x -> x.seen(4, 0, 0));
        refused("promise 31: no what", Due.NONE, x -> x.seen(2, 0, 2));
        refused("promise 31: NOTHING", Due.NOTHING, x -> x.seen(0, 0, 0));
        refused("promise 31: BEYOND", Due.BEYOND, x -> x.seen(2, 3, 0));
        refused("promise 31: BEYOND, below 0", Due.BEYOND, x -> x.seen(2, -1, 0));
        refused("promise 32: no LIST", Due.NONE, x -> x.lay(4, 0));
        refused("promise 32: NOTHING", Due.NOTHING, x -> x.lay(0, 0));
        refused("promise 34: not in the BOOK", Due.NONE, x -> x.booked(8, 0));
        refused("promise 34: no what", Due.NONE, x -> x.booked(0, 4));
        refused("promise 36: no LIST", Due.NONE, x -> x.list(4, 5));
        refused("promise 36: n above 30", Due.BAD, x -> x.list(2, 31));
        refused("promise 36: n below 0", Due.BELOW, x -> x.list(2, -1));
        refused("promise 37: no LIST", Due.NONE, x -> x.set(4, 0, 5));
        refused("promise 37: NOTHING", Due.NOTHING, x -> x.set(0, 0, 5));
        refused("promise 37: BEYOND", Due.BEYOND, x -> x.set(2, 6, 5));
        refused("promise 37: BEYOND, below 0", Due.BEYOND, x -> x.set(2, -1, 5));
        refused("promise 38: no LIST", Due.NO, x -> x.get(4, 0));
        refused("promise 38: nothing there", Due.NO, x -> x.get(0, 0));
        refused("promise 38: no such place", Due.NO, x -> x.get(2, 6));
        refused("promise 39: no what", Due.NONE, x -> x.count(7));
    }

    private static void whereItMay() {
        on(Witness::rich);
        whatIsTold();
        asItIsAndInThought();
        plansAndRows();
        refused("promise 32: BEYOND, below 0", Due.BEYOND, x -> x.lay(2, -1));
        refused("promise 32: BEYOND, no place at all", Due.BEYOND, x -> x.lay(2, 6));
        refused("promise 32: BEYOND, a row of 0", Due.BEYOND, x -> x.lay(1, 0));
    }

    private static void whereItTips() {
        on(Witness::tipping);
        refused("promise 15: no PUSHES", Due.NO, x -> x.push(0, 0));
        refused("promise 16: no PUSHES", Due.STATE, x -> x.lifted());
        refused("promise 17: no PUSHES", Due.STATE, x -> x.mat(0));
        refused("promise 32: no PUSHES", Due.STATE, x -> x.lay(2, 0));
        refused("promise 32: no PUSHES, a place below 0", Due.STATE, x -> x.lay(2, -1));
        refused("promise 29: it MAY not be so", Due.STATE, x -> x.done());
        refused("promise 19: none", Due.NOT_SO, x -> x.most());
        refused("promise 22: not from here", Due.NOT_SO, x -> x.way(3, 8));
        refused("promise 23: none will do", Due.NOT_SO, x -> x.ballast(1));
    }

    private static void whereThePlanIsRash() {
        on(Witness::rash);
        refused("promise 29: a MOMENT may not be so", Due.STATE, x -> x.done());
        refused("promise 30: it holds a take", Due.STATE, x -> x.backward());
    }

    private static void whereAllIsFull() {
        on(Witness::full);
        refused("promise 3: FULL", Due.FULL, x -> x.part(1, 0, 0, false));
        refused("promise 3: BAD ahead of FULL", Due.BAD, x -> x.part(1000, 0, 0, false));
        refused("promise 8: FULL", Due.FULL, x -> x.entry(1, 7, 5));
        refused("promise 8: STATE ahead of FULL", Due.STATE, x -> x.entry(1, 7, -1));
        refused("promise 8: BAD ahead of FULL", Due.BAD, x -> x.entry(1, 61, 5));
        refused("promise 24: FULL", Due.FULL, x -> x.feed('5'));
        refused("promise 24: BAD ahead of FULL", Due.BAD, x -> x.feed(0));
    }

    private static void whereThereIsNothing() {
        on(CranePads::new);
        refused("promise 4: no PARTS", Due.NONE, x -> x.mass(0, 5));
        refused("promise 8: no ENTRIES", Due.STATE, x -> x.entry(0, 0, -1));
        refused("promise 23: no PARTS", Due.NONE, x -> x.ballast(0));
        refused("promise 12: W is 0", Due.NO, x -> x.centre(0, 0));
        refused("promise 14: TIPPING is 0", Due.NO, x -> x.factor(0, 0));
        refused("promise 15: W is 0", Due.NO, x -> x.push(0, 0));
        refused("promise 16: W is 0", Due.STATE, x -> x.lifted());
        refused("promise 17: W is 0", Due.STATE, x -> x.mat(0));
        refused("promise 19: none", Due.NOT_SO, x -> x.most());
        refused("promise 21: none", Due.NOT_SO, x -> x.farthest(0));
        refused("promise 22: none", Due.NOT_SO, x -> x.way(0, 5));
        refused("promise 26: an empty TAPE", -100, x -> x.plan());
        refused("promise 25: an empty TAPE", 0, x -> x.clear());
        refused("promise 28: no PLAN", Due.NO, x -> x.spare());
        refused("promise 29: no PLAN", Due.STATE, x -> x.done());
        refused("promise 30: no PLAN", Due.STATE, x -> x.backward());
        refused("promise 35: an empty BOOK", Due.NOT_SO, x -> x.heaviest());
        refused("promise 41: no IMAGE", Due.STATE, x -> x.undo());
        for (int i = 0; i < 4; i++) {
            int what = i;
            refused("promise 27: no PLAN, what " + what, Due.STATE, x -> x.checked(what));
            refused("promise 34: an empty BOOK, what " + what, Due.NONE, x -> x.booked(0, what));
            refused("promise 37: LIST " + what + " holds nothing", Due.NOTHING, x -> x.set(what, 0, 5));
            refused("promise 38: LIST " + what + " holds nothing", Due.NO, x -> x.get(what, 0));
        }
    }

    private static void whatIsAsked() {
        asked("promise 6", x -> x.told(3));
        asked("promise 7", x -> x.padOf(2, 2));
        asked("promise 9", x -> x.read(1, 9));
        asked("promise 10", x -> x.allowed(19, 9));
        asked("promise 11", x -> x.weight());
        asked("promise 12", x -> x.centre(1, 0));
        asked("promise 13", x -> x.moment(3, 0));
        asked("promise 14", x -> x.factor(3, 0));
        asked("promise 15", x -> x.push(3, 0));
        asked("promise 16", x -> x.lifted());
        asked("promise 17", x -> x.mat(3));
        asked("promise 18", x -> x.why());
        asked("promise 19", x -> x.most());
        asked("promise 20", x -> x.where(20));
        asked("promise 21", x -> x.farthest(19));
        asked("promise 22", x -> x.way(13, 0));
        asked("promise 23, one that stays", x -> x.ballast(0));
        asked("promise 23, one that is TURNING", x -> x.ballast(1));
        asked("promise 27", x -> x.checked(1));
        asked("promise 28", x -> x.spare());
        asked("promise 30", x -> x.backward());
        asked("promise 31, how many", x -> x.seen(3, 0, 0));
        asked("promise 31, the least", x -> x.seen(3, 0, 1));
        asked("promise 34", x -> x.booked(0, 3));
        asked("promise 35", x -> x.heaviest());
        asked("promise 38", x -> x.get(2, 5));
        asked("promise 39", x -> x.count(6));
    }

    /** A FAULT changes nothing but THE TAPE, which is empty then. */
    private static void aFault() {
        CranePads x = Witness.rich();
        CranePads y = Witness.rich();
        y.clear();
        due.is("promise 26: a FAULT at the length", feedAndPlan(x, ";"), -111);
        String changed = Witness.of(y).differsFrom(Witness.of(x));
        due.is("promise 26: a FAULT empties THE TAPE, no more: " + changed, changed == null ? 0 : 1, 0);
    }

    private static long feedAndPlan(CranePads x, String more) {
        Due.feed(x, more);
        return x.plan();
    }

    /** BEYOND of lay() changes those places that there are. */
    private static void layBeyond() {
        CranePads x = Witness.rich();
        CranePads y = Witness.rich();
        long first = y.get(3, 0);
        long second = y.get(3, 1);
        due.is("promise 32: two of four", x.lay(2, 4), Due.BEYOND);
        y.set(2, 4, first);
        y.set(2, 5, second);
        String changed = Witness.of(y).differsFrom(Witness.of(x));
        due.is("promise 32: two are there, no more changed: " + changed, changed == null ? 0 : 1, 0);
    }

    private static void theCranesAreAsTheirNamesSay() {
        CranePads rich = Witness.rich();
        due.is("rich: it MAY", rich.why(), 0);
        due.is("rich: the PLAN may be DONE", rich.checked(1), Due.NOT_SO);
        due.is("rich: and backward", rich.backward(), 1);
        due.is("tipping: it TIPS", Witness.tipping().why(), 2);
        CranePads rash = Witness.rash();
        due.is("rash: it MAY at first", rash.why(), 0);
        due.is("rash: and not by the take", rash.checked(2), 1);
        CranePads full = Witness.full();
        due.is("full: it MAY", full.why(), 0);
        due.is("full: PARTS", full.count(0), 8);
        due.is("full: THE TAPE", full.count(1), 100);
        due.is("full: ENTRIES", full.count(4), 10);
        due.is("full: the BOOK", full.book(), 8);
        due.is("full: a text that is a PLAN", full.plan(), 22);
        // the fullest takes 176 calls to make
        due.is("512 calls: no more", Witness.of(Witness.full()).calls() + 176 + 2 <= 512 ? 1 : 0, 1);
    }

    public static void main(String[] args) {
        theCranesAreAsTheirNamesSay();
        whereItMay();
        whatIsAsked();
        whereItTips();
        whatIsAsked();
        whereThePlanIsRash();
        whatIsAsked();
        whereAllIsFull();
        whatIsAsked();
        whereThereIsNothing();
        whatIsAsked();
        aFault();
        layBeyond();
        due.end();
    }
}
