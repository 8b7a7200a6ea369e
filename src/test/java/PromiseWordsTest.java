import java.util.function.IntToLongFunction;

/**
 * The document from promise 1 to its last line, word by word: of each promise what it does, and every answer that it
 * names for what can't be answered, in the order in which it names them.
 */
public final class PromiseWordsTest {
    private static final int[] NO_PLACE_OF_FOUR = {-1, 4, Due.LEAST_INT, Due.GREATEST_INT};
    private static final int[] NO_SIDE = {-1, 2, Due.LEAST_INT, Due.GREATEST_INT};
    private static final int[] NO_DIRECTION = {-1, 20, Due.LEAST_INT, Due.GREATEST_INT};
    private static final int[] NO_REACH = {-1, 61, Due.LEAST_INT, Due.GREATEST_INT};
    private static Reading doc;

    private static void promise(int number, String name, String face) {
        doc.says("## Promise " + number + ": " + name);
        doc.says("`" + face + "`:");
    }

    /** Every one of these numbers gets the same answer. */
    private static void all(String what, int[] numbers, IntToLongFunction call, long due) {
        for (int number : numbers) {
            doc.is(what + " " + number, call.applyAsLong(number), due);
        }
    }

    /** 60 in the middle, which hold 600 about each EDGE (by 20); 50 may hang up to 40 out. */
    private static CranePads crane() {
        CranePads x = new CranePads();
        x.part(60, 0, 0, false);
        x.entry(0, 40, 50);
        return x;
    }

    /** It STANDS, but there is nothing that weighs: no PUSHES, and it MAY nowhere. */
    private static CranePads empty() {
        return new CranePads();
    }

    // ---- what is told

    private static void aNewObject() {
        promise(1, "A new object", "CranePads()");
        doc.says("No PARTS, no ENTRIES.");
        CranePads x = empty();
        doc.is("PARTS", x.count(0), 0);
        doc.is("W", x.weight(), 0);
        for (int chart = 0; chart < 3; chart++) {
            doc.is("ENTRIES", x.count(3 + chart), 0);
            doc.is("READ", x.read(chart, 0), 0);
        }
    }

    private static void pad() {
        promise(2, "pad", "int pad(int pad, int x, int y, int limit)");
        doc.says("X, Y, LIMIT of a PAD become these: 1 if it STANDS then, else 0.");
        CranePads x = empty();
        doc.is("a PAD farther out", x.pad(1, -30, 29, 17), 1);
        doc.is("X", x.padOf(1, 0), -30);
        doc.is("Y", x.padOf(1, 1), 29);
        doc.is("LIMIT", x.padOf(1, 2), 17);
        doc.is("a PAD on the next", x.pad(1, -10, -10, 0), 0);
        doc.is("and that is so", x.padOf(1, 1), -10);
        doc.says("NONE: pad; BAD.");
        all("pad", NO_PLACE_OF_FOUR, k -> x.pad(k, 31, 0, 0), Due.NONE);
        all("X", new int[] {-31, 31, Due.LEAST_INT, Due.GREATEST_INT}, v -> x.pad(0, v, 0, 0), Due.BAD);
        all("Y", new int[] {-31, 31, Due.LEAST_INT, Due.GREATEST_INT}, v -> x.pad(0, 0, v, 0), Due.BAD);
        all("LIMIT", new int[] {-1, 10000, Due.LEAST_INT, Due.GREATEST_INT}, v -> x.pad(0, 0, 0, v), Due.BAD);
        doc.is("nothing was changed", x.padOf(0, 0), 10);
    }

    private static void part() {
        promise(3, "part", "int part(int mass, int a, int b, boolean turning)");
        doc.says("A PART comes: its number.");
        CranePads x = empty();
        doc.is("the first", x.part(1, -40, 40, true), 0);
        doc.is("the second", x.part(999, 40, -40, false), 1);
        doc.says("BAD; FULL: eight.");
        for (int part = 2; part < 8; part++) {
            doc.is("one more", x.part(5, 0, 0, false), part);
        }
        doc.is("a ninth", x.part(5, 0, 0, false), Due.FULL);
        all("MASS", new int[] {0, 1000, Due.LEAST_INT, Due.GREATEST_INT}, v -> x.part(v, 0, 0, true), Due.BAD);
        all("A", new int[] {-41, 41, Due.LEAST_INT, Due.GREATEST_INT}, v -> x.part(5, v, 0, true), Due.BAD);
        all("B", new int[] {-41, 41, Due.LEAST_INT, Due.GREATEST_INT}, v -> x.part(5, 0, v, true), Due.BAD);
        doc.is("PARTS", x.count(0), 8);
    }

    private static void mass() {
        promise(4, "mass", "int mass(int part, int v)");
        doc.says("MASS of a PART becomes v: what it was.");
        CranePads x = crane();
        doc.is("it was", x.mass(0, 999), 60);
        doc.is("and was", x.mass(0, 1), 999);
        doc.is("W", x.weight(), 1);
        doc.says("NONE; BAD.");
        all("no PART", new int[] {-1, 1, 8, Due.LEAST_INT, Due.GREATEST_INT}, k -> x.mass(k, 0), Due.NONE);
        all("MASS", new int[] {0, -1, 1000, Due.LEAST_INT, Due.GREATEST_INT}, v -> x.mass(0, v), Due.BAD);
        doc.is("nothing was changed", x.mass(0, 2), 1);
    }

    private static void putAndTold() {
        promise(5, "put", "int put(int what, int v)");
        doc.says("What 0 DIRECTION, 1 REACH, 2 HOOK, 3 LOAD, 4 GROUND, 5 CHART in use, 6 WIND, 7 MANNER, 10 .. 13 PERCENT of a"
            + " QUARTER becomes v: what it was.");
        int[] whats = {0, 1, 2, 3, 4, 5, 6, 7, 10, 11, 12, 13};
        int[] first = {0, 5, 0, 0, 50, 0, 0, 0, 100, 100, 100, 100};
        int[] greatest = {19, 60, 999, 9999, 999, 2, 9, 2, 100, 100, 100, 100};
        CranePads x = empty();
        for (int i = 0; i < whats.length; i++) {
            doc.is("what " + whats[i] + " was", x.put(whats[i], 1), first[i]);
            doc.is("what " + whats[i] + " was then", x.put(whats[i], greatest[i]), 1);
        }
        doc.says("NONE: what; BAD.");
        all("no such", new int[] {-1, 8, 9, 14, Due.LEAST_INT, Due.GREATEST_INT}, k -> x.put(k, -1), Due.NONE);
        for (int i = 0; i < whats.length; i++) {
            int what = whats[i];
            all("bad for " + what, new int[] {-1, greatest[i] + 1, Due.LEAST_INT, Due.GREATEST_INT}, v -> x.put(what, v), Due.BAD);
        }
        promise(6, "told", "int told(int what)");
        doc.says("That.");
        for (int i = 0; i < whats.length; i++) {
            doc.is("what " + whats[i], x.told(whats[i]), greatest[i]);
        }
        doc.says("NONE.");
        all("no such", new int[] {-1, 8, 9, 14, Due.LEAST_INT, Due.GREATEST_INT}, k -> x.told(k), Due.NONE);
    }

    private static void padOf() {
        promise(7, "padOf", "long padOf(int pad, int what)");
        doc.says("Of a PAD what 0 X, 1 Y, 2 LIMIT.");
        CranePads x = empty();
        x.pad(3, 12, -13, 14);
        doc.is("X", x.padOf(3, 0), 12);
        doc.is("Y", x.padOf(3, 1), -13);
        doc.is("LIMIT", x.padOf(3, 2), 14);
        doc.says("NO: pad, what.");
        all("pad", NO_PLACE_OF_FOUR, k -> x.padOf(k, 0), Due.NO);
        all("what", new int[] {-1, 3, Due.LEAST_INT, Due.GREATEST_INT}, k -> x.padOf(0, k), Due.NO);
    }

    private static void entry() {
        promise(8, "entry", "int entry(int chart, int reach, int v)");
        doc.says("An ENTRY of a CHART becomes v at a REACH (v -1: it goes): how many it has.");
        CranePads x = empty();
        doc.is("one", x.entry(1, 60, 9999), 1);
        doc.is("another", x.entry(1, 0, 0), 2);
        doc.is("the same", x.entry(1, 0, 7), 2);
        doc.is("it is 7", x.read(1, 0), 7);
        doc.is("one goes", x.entry(1, 60, -1), 1);
        doc.is("none is behind", x.read(1, 1), 0);
        doc.says("NONE: chart; BAD: reach, v; STATE: v is -1, and there is none; FULL: ten.");
        all("chart", new int[] {-1, 3, Due.LEAST_INT, Due.GREATEST_INT}, k -> x.entry(k, 61, -2), Due.NONE);
        all("reach", NO_REACH, r -> x.entry(1, r, -1), Due.BAD);
        all("v", new int[] {-2, 10000, Due.LEAST_INT, Due.GREATEST_INT}, v -> x.entry(1, 5, v), Due.BAD);
        doc.is("there is none", x.entry(1, 60, -1), Due.STATE);
        for (int reach = 1; reach < 10; reach++) {
            doc.is("one more", x.entry(1, reach, 5), reach + 1);
        }
        doc.is("an eleventh", x.entry(1, 10, 5), Due.FULL);
        doc.is("none to go is named ahead of ten", x.entry(1, 10, -1), Due.STATE);
        doc.is("one of the ten", x.entry(1, 9, 6), 10);
        doc.is("one of the ten goes", x.entry(1, 9, -1), 9);
    }

    private static void readAndAllowed() {
        promise(9, "read", "int read(int chart, int reach)");
        doc.says("READ of a CHART.");
        CranePads x = empty();
        x.entry(2, 10, 100);
        x.entry(2, 13, 0);
        int[] due = {100, 66, 33, 0, 0};
        for (int i = 0; i < due.length; i++) {
            doc.is("at " + (10 + i), x.read(2, 10 + i), due[i]);
        }
        doc.says("NONE: chart; BAD: reach.");
        all("chart", new int[] {-1, 3, Due.LEAST_INT, Due.GREATEST_INT}, k -> x.read(k, 61), Due.NONE);
        all("reach", NO_REACH, r -> x.read(0, r), Due.BAD);
        promise(10, "allowed", "int allowed(int direction, int reach)");
        doc.says("ALLOWED at a DIRECTION and REACH.");
        x.put(5, 2);
        x.put(6, 1);
        x.put(7, 2);
        x.put(13, 50);
        doc.is("100: 95: 71: 70", x.allowed(14, 10), 70);
        doc.is("and half of it", x.allowed(15, 10), 35);
        doc.is("33: 31: 23: 22: 11", x.allowed(19, 12), 11);
        doc.is("0 is the least", x.allowed(19, 13), 0);
        doc.says("NONE; BAD: reach.");
        all("direction", NO_DIRECTION, k -> x.allowed(k, 61), Due.NONE);
        all("reach", NO_REACH, r -> x.allowed(0, r), Due.BAD);
    }

    // ---- as it is

    private static void weightAndCentre() {
        promise(11, "weight", "int weight()");
        doc.says("W.");
        CranePads x = crane();
        x.put(2, 7);
        x.put(3, 13);
        doc.is("60, 7, 13", x.weight(), 80);
        doc.is("nothing", empty().weight(), 0);
        promise(12, "centre", "long centre(int what, int part)");
        doc.says("CENTRE: what 0 X, 1 Y.");
        x.put(0, 3);
        doc.fraction("20 at 5 times 3/5", x.centre(0, 0), x.centre(0, 1), 20 * 3, 80);
        doc.fraction("20 at 5 times 4/5", x.centre(1, 0), x.centre(1, 1), 20 * 4, 80);
        doc.says("NO: what, part, none.");
        all("what", NO_SIDE, k -> x.centre(k, 0), Due.NO);
        all("part", NO_SIDE, k -> x.centre(1, k), Due.NO);
        doc.is("none", empty().centre(0, 1), Due.NO);
    }

    private static void momentAndFactor() {
        promise(13, "moment", "long moment(int edge, int part)");
        doc.says("MOMENT of ALL about an EDGE.");
        CranePads x = crane();
        x.put(1, 13);
        x.put(3, 1);
        x.put(0, 2);
        doc.fraction("60 in the middle, 1 at 52/5 by EDGE 3", x.moment(3, 0), x.moment(3, 1), 60 * 200 * 5 + 20 * (50 - 52), 5);
        doc.says("NO: edge, part.");
        all("edge", NO_PLACE_OF_FOUR, k -> x.moment(k, 0), Due.NO);
        all("part", NO_SIDE, k -> x.moment(0, k), Due.NO);
        promise(14, "factor", "long factor(int edge, int part)");
        doc.says("HOLDING by TIPPING of an EDGE.");
        doc.fraction("12000 by 8", x.factor(3, 0), x.factor(3, 1), 1500, 1);
        doc.says("NO: edge, part, TIPPING is 0.");
        all("edge", NO_PLACE_OF_FOUR, k -> x.factor(k, 0), Due.NO);
        all("part", NO_SIDE, k -> x.factor(3, k), Due.NO);
        doc.is("TIPPING is 0", x.factor(1, 0), Due.NO);
        doc.is("TIPPING is 0", x.factor(1, 1), Due.NO);
    }

    private static void pushAndLifted() {
        promise(15, "push", "long push(int pad, int part)");
        doc.says("PUSH of a PAD.");
        CranePads x = crane();
        x.put(3, 20);
        doc.fraction("20 and 100 by 40", x.push(0, 0), x.push(0, 1), 45, 2);
        doc.fraction("20 less 100 by 40", x.push(1, 0), x.push(1, 1), 35, 2);
        doc.says("NO: pad, part, no PUSHES.");
        all("pad", NO_PLACE_OF_FOUR, k -> x.push(k, 0), Due.NO);
        all("part", NO_SIDE, k -> x.push(0, k), Due.NO);
        doc.is("no PUSHES", empty().push(0, 1), Due.NO);
        promise(16, "lifted", "int lifted()");
        doc.says("Which PAD is LIFTED; -5: none is.");
        doc.is("none is", x.lifted(), Due.NOT_SO);
        x.mass(0, 1);
        x.part(60, 7, 7, false);
        doc.is("the one across", x.lifted(), 2);
        doc.says("STATE: no PUSHES.");
        doc.is("no PUSHES", empty().lifted(), Due.STATE);
    }

    private static void matAndWhy() {
        promise(17, "mat", "int mat(int pad)");
        doc.says("MAT.");
        CranePads x = crane();
        x.put(4, 5);
        doc.is("15 on 5", x.mat(0), 2);
        doc.says("NONE: pad; STATE: no PUSHES; -5: no side is enough.");
        all("pad", NO_PLACE_OF_FOUR, k -> x.mat(k), Due.NONE);
        all("pad without PUSHES", NO_PLACE_OF_FOUR, k -> empty().mat(k), Due.NONE);
        doc.is("no PUSHES", empty().mat(0), Due.STATE);
        x.put(1, 10);
        x.put(3, 7201);
        x.put(4, 1);
        doc.is("3615 and a half on 1", x.mat(0), Due.NOT_SO);
        doc.is("15 on 1", x.mat(1), 4);
        promise(18, "why", "int why()");
        doc.says("WHY (0: it MAY).");
        doc.is("5", x.why(), 5);
        x.pad(3, 10, -10, 3615);
        doc.is("4", x.why(), 4);
        x.put(1, 11);
        doc.is("2", x.why(), 2);
        x.pad(3, 10, 10, 9999);
        doc.is("1", x.why(), 1);
        doc.is("0", crane().why(), 0);
    }

    // ---- in thought

    private static void mostAndWhere() {
        promise(19, "most", "int most()");
        doc.says("The MOST; -5.");
        CranePads x = crane();
        doc.is("50 by the CHART", x.most(), 50);
        x.put(1, 22);
        doc.is("60 by 10 against 12", x.most(), 50);
        x.put(1, 23);
        doc.is("600 by 13", x.most(), 46);
        doc.is("none", empty().most(), Due.NOT_SO);
        promise(20, "where", "int where(int reach)");
        doc.says("WHERE (bits).");
        x.put(3, 21);
        doc.is("600 against 21 by 30, but by 27 and less", x.where(40), (1 << 20) - 1 - 1 - (1 << 5) - (1 << 10) - (1 << 15));
        x.put(3, 20);
        doc.is("everywhere", x.where(40), (1 << 20) - 1);
        doc.is("no more by the CHART", x.where(41), 0);
        x.put(12, 0);
        doc.is("not in QUARTER 2", x.where(40), (1 << 20) - 1 - (31 << 10));
        doc.says("BAD.");
        all("reach", NO_REACH, r -> x.where(r), Due.BAD);
    }

    private static void farthestAndWay() {
        promise(21, "farthest", "int farthest(int direction)");
        doc.says("FARTHEST; -5.");
        CranePads x = crane();
        x.put(3, 30);
        doc.is("60 by 10 against 30 by 20", x.farthest(0), 30);
        doc.is("times 12/13 it may be 32", x.farthest(1), 32);
        doc.is("none", empty().farthest(0), Due.NOT_SO);
        doc.says("NONE.");
        all("direction", NO_DIRECTION, k -> x.farthest(k), Due.NONE);
        promise(22, "way", "int way(int direction, int reach)");
        doc.says("WAY; -5.");
        doc.is("3 back and 25 out", x.way(17, 30), 28);
        x.put(13, 0);
        doc.is("17 on and 25 out, but QUARTER 3 MAY not", x.way(17, 30), Due.NOT_SO);
        doc.is("14 on", x.way(14, 5), 14);
        doc.is("none", empty().way(0, 5), Due.NOT_SO);
        doc.says("NONE: direction; BAD: reach.");
        all("direction", NO_DIRECTION, k -> x.way(k, 61), Due.NONE);
        all("reach", NO_REACH, r -> x.way(0, r), Due.BAD);
    }

    private static void ballast() {
        promise(23, "ballast", "int ballast(int part)");
        doc.says("BALLAST; -5.");
        CranePads x = crane();
        x.put(3, 40);
        x.put(1, 35);
        doc.is("40 by 25 against 10", x.ballast(0), 100);
        x.part(1, -40, 0, true);
        doc.is("50 less 600, by 50", x.ballast(1), 8);
        x.put(3, 51);
        doc.is("too much hangs", x.ballast(0), Due.NOT_SO);
        doc.says("NONE.");
        all("part", new int[] {-1, 2, 8, Due.LEAST_INT, Due.GREATEST_INT}, k -> x.ballast(k), Due.NONE);
    }

    // ---- plans

    private static void theTape() {
        promise(24, "feed", "int feed(int letter)");
        doc.says("A byte (1 .. 127) comes behind THE TAPE's: how many it has.");
        CranePads x = crane();
        doc.is("1", x.feed(1), 1);
        doc.is("127", x.feed(127), 2);
        doc.says("BAD; FULL.");
        int[] wrong = {0, 128, -1, 256 + 65, Due.LEAST_INT, Due.GREATEST_INT};
        all("no byte", wrong, k -> x.feed(k), Due.BAD);
        Due.feed(x, Due.times(97, "x"));
        doc.is("the hundredth", x.feed('x'), 100);
        doc.is("no more", x.feed('x'), Due.FULL);
        all("no byte", wrong, k -> x.feed(k), Due.BAD);
        promise(25, "clear", "int clear()");
        doc.says("THE TAPE is empty then: how many bytes it had.");
        doc.is("100", x.clear(), 100);
        doc.is("none", x.clear(), 0);
        doc.is("and one comes", x.feed('x'), 1);
    }

    private static void plan() {
        promise(26, "plan", "int plan()");
        doc.says("THE TAPE becomes the PLAN (the one ahead goes): how many STEPS;");
        CranePads x = crane();
        doc.is("four", Due.plan(x, "take 5;slew 3;set;reach 6"), 4);
        doc.is("MOMENTS", x.checked(0), 7);
        doc.is("one", Due.plan(x, "wind 9"), 1);
        doc.is("MOMENTS", x.checked(0), 2);
        doc.says("-100 less the FAULT (the one ahead stays).");
        doc.is("a FAULT", Due.plan(x, "set;set;wind 10"), -113);
        doc.is("one STEP still", x.count(2), 1);
        doc.is("MOMENTS", x.checked(0), 2);
        doc.is("nothing on THE TAPE", x.plan(), -100);
        doc.is("one STEP still", x.count(2), 1);
    }

    private static void checkedAndSpare() {
        promise(27, "checked", "int checked(int what)");
        doc.says("CHECKED: what 0 how many MOMENTS, 1 the first in which it MAY not (-5), 2 the STEP (-5), 3 WHY (0).");
        CranePads x = crane();
        Due.plan(x, "reach 7;take 50;slew 18");
        int[] may = {1 + 2 + 1 + 2, Due.NOT_SO, Due.NOT_SO, 0};
        int[] mayNot = {1 + 2 + 1 + 2, 4, 2, 5};
        for (int what = 0; what < 4; what++) {
            doc.is("what " + what, x.checked(what), may[what]);
        }
        x.put(13, 99);
        for (int what = 0; what < 4; what++) {
            doc.is("what " + what, x.checked(what), mayNot[what]);
        }
        doc.says("NONE: what; STATE: no PLAN.");
        all("what", NO_PLACE_OF_FOUR, k -> x.checked(k), Due.NONE);
        all("what without a PLAN", NO_PLACE_OF_FOUR, k -> crane().checked(k), Due.NONE);
        all("no PLAN", new int[] {0, 1, 2, 3}, k -> crane().checked(k), Due.STATE);
        promise(28, "spare", "long spare()");
        doc.says("The least of ALLOWED less LOAD and HOOK (below 0, too) in MOMENTS of the PLAN.");
        doc.is("49 less 50", x.spare(), -1);
        x.put(2, 3);
        doc.is("and the HOOK", x.spare(), -4);
        Due.plan(x, "set");
        doc.is("50 less 3", x.spare(), 47);
        doc.says("NO: no PLAN.");
        doc.is("no PLAN", crane().spare(), Due.NO);
    }

    private static void done() {
        promise(29, "done", "int done()");
        doc.says("The PLAN is DONE: how many MOMENTS (it stays the PLAN).");
        CranePads x = crane();
        Due.plan(x, "slew 18;take 9;wind 1;reach 4");
        doc.is("MOMENTS", x.done(), 1 + 2 + 1 + 1 + 1);
        doc.is("it stays", x.count(2), 4);
        doc.is("again", x.done(), 3);
        doc.is("DIRECTION", x.told(0), 18);
        doc.says("STATE: no PLAN, or it MAY not be so in one of them (nothing is done).");
        doc.is("no PLAN", crane().done(), Due.STATE);
        Due.plan(x, "wind 2;reach 30;take 51;set;slew 1");
        doc.is("51 in one of them", x.done(), Due.STATE);
        int[] still = {18, 4, 0, 9, 50, 0, 1};
        for (int what = 0; what < still.length; what++) {
            doc.is("what " + what + " is as it was", x.told(what), still[what]);
        }
    }

    private static void backward() {
        promise(30, "backward", "int backward()");
        doc.says("The PLAN gone back, in thought: from how it ends, the last STEP ahead, each slew or reach to what there was ahead of"
            + " it: whether it MAY be so in all MOMENTS (as it ends, too): 1, 0.");
        CranePads x = crane();
        x.put(3, 30);
        Due.plan(x, "slew 7;reach 30;slew 9");
        doc.is("it MAY", x.backward(), 1);
        doc.is("in thought", x.told(0), 0);
        Due.plan(x, "reach 31;slew 1;reach 30");
        doc.is("forward it MAY not, back neither", x.backward(), 0);
        Due.plan(x, "slew 1;reach 32;reach 30;slew 0");
        doc.is("both ways by 32 out at DIRECTION 1", x.backward(), 1);
        Due.plan(x, "slew 1;reach 33");
        doc.is("as it ends, too", x.backward(), 0);
        x.put(13, 0);
        Due.plan(x, "slew 10");
        doc.is("ten on are ten back by QUARTERS 2 and 3", x.backward(), 0);
        Due.plan(x, "slew 9;slew 10");
        doc.is("one back and nine back", x.backward(), 1);
        doc.says("STATE: no PLAN, or it holds a take, set or wind.");
        doc.is("no PLAN", crane().backward(), Due.STATE);
        String[] texts = {"slew 1;take 5", "set;slew 1", "reach 4;wind 0;reach 5"};
        for (String text : texts) {
            Due.plan(x, text);
            doc.is(text, x.backward(), Due.STATE);
        }
    }

    // ---- seen, the book

    private static void seen() {
        promise(31, "seen", "int seen(int list, int i, int what)");
        doc.says("SEEN: what 0 how many, 1 the least (-5).");
        CranePads x = crane();
        x.put(1, 10);
        x.list(3, 4);
        int[] told = {19, 15, 15, 19};
        for (int i = 0; i < 4; i++) {
            x.set(3, i, told[i]);
        }
        doc.is("8 and 9", x.seen(3, 0, 0), 2);
        doc.is("8", x.seen(3, 0, 1), 8);
        x.set(3, 3, 20);
        doc.is("none", x.seen(3, 0, 0), 0);
        doc.is("none", x.seen(3, 0, 1), Due.NOT_SO);
        doc.says("NONE: list, what; NOTHING; BEYOND (a place below 0, too).");
        all("list", NO_PLACE_OF_FOUR, k -> x.seen(k, 0, 0), Due.NONE);
        all("what", NO_SIDE, k -> x.seen(0, 9, k), Due.NONE);
        doc.is("NOTHING", x.seen(0, -1, 0), Due.NOTHING);
        all("i", new int[] {-1, 1, 4, Due.LEAST_INT, Due.GREATEST_INT}, i -> x.seen(3, i, 1), Due.BEYOND);
    }

    private static void lay() {
        promise(32, "lay", "int lay(int list, int i)");
        doc.says("PUSHES cut to wholes are laid into a LIST from i on: how many (4).");
        CranePads x = crane();
        x.put(1, 10);
        x.put(3, 9);
        x.list(0, 6);
        doc.is("four", x.lay(0, 1), 4);
        rowIs(x, 0, 19, 15, 15, 19, 0);
        doc.says("NONE; NOTHING; STATE: no PUSHES; BEYOND: not all were (those that had a place are there all the same; none, if i is"
            + " below 0).");
        all("list", NO_PLACE_OF_FOUR, k -> x.lay(k, -1), Due.NONE);
        doc.is("NOTHING", x.lay(1, 0), Due.NOTHING);
        doc.is("NOTHING ahead of STATE", empty().lay(1, 0), Due.NOTHING);
        CranePads y = empty();
        y.list(1, 2);
        doc.is("STATE ahead of BEYOND", y.lay(1, 0), Due.STATE);
        x.list(0, 6);
        all("i", new int[] {-1, -4, 6, Due.LEAST_INT, Due.GREATEST_INT}, i -> x.lay(0, i), Due.BEYOND);
        rowIs(x, 0, 0, 0, 0, 0, 0);
        doc.is("two have a place", x.lay(0, 4), Due.BEYOND);
        rowIs(x, 0, 0, 0, 0, 19, 15);
    }

    private static void rowIs(CranePads x, long... due) {
        for (int i = 0; i < due.length; i++) {
            doc.is("place " + i, x.get(0, i), due[i]);
        }
    }

    private static void bookAndBooked() {
        promise(33, "book", "int book()");
        doc.says("As it is is kept in the BOOK: how many it has.");
        CranePads x = crane();
        doc.is("one", x.book(), 1);
        x.put(3, 30);
        x.put(1, 31);
        x.put(0, 4);
        doc.is("two", x.book(), 2);
        for (int n = 3; n < 12; n++) {
            doc.is("eight at most", x.book(), Math.min(n, 8));
        }
        promise(34, "booked", "int booked(int i, int what)");
        doc.says("Of the i-th of the BOOK (0 the eldest) what 0 LOAD, 1 DIRECTION, 2 REACH, 3 whether it MAY be so now (1, 0).");
        int[] due = {30, 4, 31, 1};
        for (int what = 0; what < 4; what++) {
            doc.is("the eldest", x.booked(0, what), due[what]);
        }
        x.put(3, 1);
        x.put(10, 59);
        doc.is("29 now", x.booked(0, 3), 0);
        doc.is("LOAD as it was", x.booked(7, 0), 30);
        doc.says("NONE.");
        all("i", new int[] {-1, 8, Due.LEAST_INT, Due.GREATEST_INT}, i -> x.booked(i, 0), Due.NONE);
        all("what", NO_PLACE_OF_FOUR, k -> x.booked(0, k), Due.NONE);
        all("an empty one", new int[] {-1, 0, 1}, i -> crane().booked(i, 0), Due.NONE);
    }

    private static void heaviest() {
        promise(35, "heaviest", "int heaviest()");
        doc.says("HEAVIEST; -5: the BOOK is empty.");
        CranePads x = crane();
        doc.is("empty", x.heaviest(), Due.NOT_SO);
        int[] loads = {0, 9, 6, 2, 9};
        int[] reaches = {60, 3, 6, 18, 4};
        int[] due = {0, 1, 2, 2, 2};
        for (int i = 0; i < loads.length; i++) {
            x.put(3, loads[i]);
            x.put(1, reaches[i]);
            x.book();
            doc.is("of " + (i + 1), x.heaviest(), due[i]);
        }
    }

    // ---- rows, the image

    private static void rows() {
        promise(36, "list", "int list(int list, int n)");
        doc.says("A LIST becomes a row of n longs, all 0: 1.");
        CranePads x = crane();
        doc.is("30", x.list(0, 30), 1);
        x.set(0, 3, 8);
        doc.is("5", x.list(0, 5), 1);
        rowIs(x, 0, 0, 0, 0, 0);
        doc.is("no sixth", x.get(0, 5), Due.NO);
        doc.says("NONE: list; BAD: n above 30; BELOW.");
        all("list", NO_PLACE_OF_FOUR, k -> x.list(k, 31), Due.NONE);
        all("n", new int[] {31, Due.GREATEST_INT}, n -> x.list(0, n), Due.BAD);
        all("n", new int[] {-1, Due.LEAST_INT}, n -> x.list(0, n), Due.BELOW);
        promise(37, "set", "int set(int list, int i, long v)");
        doc.says("Place i of a LIST becomes v: 1.");
        doc.is("the first", x.set(0, 0, Long.MAX_VALUE), 1);
        doc.is("the last", x.set(0, 4, Long.MIN_VALUE), 1);
        doc.says("NONE; NOTHING; BEYOND.");
        all("list", NO_PLACE_OF_FOUR, k -> x.set(k, -1, 5), Due.NONE);
        doc.is("NOTHING", x.set(1, -1, 5), Due.NOTHING);
        all("i", new int[] {-1, 5, Due.LEAST_INT, Due.GREATEST_INT}, i -> x.set(0, i, 5), Due.BEYOND);
        promise(38, "get", "long get(int list, int i)");
        doc.says("Place i of a LIST.");
        rowIs(x, Long.MAX_VALUE, 0, 0, 0, Long.MIN_VALUE);
        doc.says("NO: no such LIST, nothing there, no such place.");
        all("list", NO_PLACE_OF_FOUR, k -> x.get(k, 0), Due.NO);
        doc.is("nothing there", x.get(1, 0), Due.NO);
        all("i", new int[] {-1, 5, Due.LEAST_INT, Due.GREATEST_INT}, i -> x.get(0, i), Due.NO);
    }

    private static void count() {
        promise(39, "count", "int count(int what)");
        doc.says("What 0 PARTS, 1 bytes of THE TAPE, 2 STEPS of the PLAN, 3 .. 5 ENTRIES of CHART what less 3, 6 whether it STANDS.");
        CranePads x = crane();
        x.part(1, 1, 1, true);
        Due.plan(x, "set;set;set");
        Due.feed(x, "abcd");
        for (int reach = 0; reach < 5; reach++) {
            x.entry(1, reach, 0);
            x.entry(2, reach, 0);
        }
        x.entry(2, 60, 0);
        int[] due = {2, 4, 3, 1, 5, 6, 1};
        for (int what = 0; what < due.length; what++) {
            doc.is("what " + what, x.count(what), due[what]);
        }
        x.pad(0, 0, 0, 0);
        doc.is("it doesn't STAND", x.count(6), 0);
        doc.says("NONE.");
        all("what", new int[] {-1, 7, Due.LEAST_INT, Due.GREATEST_INT}, k -> x.count(k), Due.NONE);
    }

    private static void imageAndUndo() {
        promise(40, "image", "int image()");
        doc.says("THE IMAGE is taken: how many PARTS.");
        CranePads x = crane();
        doc.is("one", x.image(), 1);
        x.part(2, 1, 1, false);
        doc.is("two", x.image(), 2);
        doc.is("none", empty().image(), 0);
        promise(41, "undo", "int undo()");
        doc.says("All is as THE IMAGE: how many PARTS.");
        x.mass(0, 7);
        x.part(3, 3, 3, true);
        x.put(1, 9);
        doc.is("two", x.undo(), 2);
        doc.is("W", x.weight(), 62);
        doc.is("REACH", x.told(1), 5);
        x.put(1, 8);
        doc.is("THE IMAGE is there still", x.undo(), 2);
        doc.is("REACH", x.told(1), 5);
        doc.says("STATE: there is none.");
        doc.is("there is none", crane().undo(), Due.STATE);
    }

    private static void notPromised() {
        doc.says("## Not promised");
        doc.says("How the state is held inside the object is free, as are the speed of each call, the text of toString and the behaviour"
            + " of equals and hashCode.");
        doc.says("Use of one object from several threads at once is not promised to be safe.");
        CranePads one = crane();
        CranePads other = empty();
        other.put(1, 44);
        doc.is("but two objects have nothing in common", one.told(1), 5);
        doc.is("but two objects have nothing in common", other.count(0), 0);
        doc.says("Nothing is promised beyond the answers and state changes described above, and nothing about an object after its 512th"
            + " call.");
    }

    public static void main(String[] args) throws Exception {
        doc = Reading.from("## Promise 1:");
        aNewObject();
        pad();
        part();
        mass();
        putAndTold();
        padOf();
        entry();
        readAndAllowed();
        weightAndCentre();
        momentAndFactor();
        pushAndLifted();
        matAndWhy();
        mostAndWhere();
        farthestAndWay();
        ballast();
        theTape();
        plan();
        checkedAndSpare();
        done();
        backward();
        seen();
        lay();
        bookAndBooked();
        heaviest();
        rows();
        count();
        imageAndUndo();
        notPromised();
        doc.goesUpTo("");
    }
}
