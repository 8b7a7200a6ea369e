import java.lang.reflect.Constructor;
import java.lang.reflect.Method;
import java.lang.reflect.Modifier;
import java.util.ArrayList;
import java.util.List;

/** The document from its first line up to promise 1, sentence by sentence; the numbers were reckoned by hand. */
public final class TermsTest {
    private static final int[] FIRST_X = {10, -10, -10, 10};
    private static final int[] FIRST_Y = {10, 10, -10, -10};
    private static Reading doc;

    // ---- what it is, the public face

    private static void whatItIs() {
        doc.says("# CranePads ## What it is");
        doc.says("A judge of cranes on four pads: parts that stay and parts that turn with the top, a load on the hook at"
            + " a reach, twenty directions by whole triples, the centre of all, moments about edges, what each pad bears"
            + " by one plane or by three where one lifts, mats on the ground; charts of what may hang at which reach,"
            + " read between entries, cut by wind, quarters and manners; what may be, the most that may, where it may,"
            + " shortest ways of slewing and reaching that are lawful all along, ballast that would do; plans read from"
            + " texts, gone through moment by moment; what hangs by what pads were seen to bear, plans held against one"
            + " another, a book of lifts, rows of numbers, an image. ==== 1 PADS 0 ..");
        doc.says("An object is used for at most 512 calls after it has been made; what later calls answer is free.");
        CranePads x = Due.firm();
        for (int call = 3; call < 512; call++) {
            doc.is("call " + call, x.put(1, call % 61), call == 3 ? 5 : (call - 1) % 61);
        }
        doc.is("call 512", x.told(1), 511 % 61);
    }

    private static String kind(int modifiers) {
        String finality = Modifier.isFinal(modifiers) ? "final " : "";
        return (Modifier.isPublic(modifiers) ? "public " : "") + (Modifier.isStatic(modifiers) ? "static " : "") + finality;
    }

    private static String types(Class<?>[] parameters) {
        List<String> names = new ArrayList<>();
        for (Class<?> parameter : parameters) {
            names.add(parameter.getSimpleName());
        }
        return "(" + String.join(",", names) + ")";
    }

    /** One line of the interface, told with the parameters' types alone, must be one of the class. */
    private static void faceHas(String line, List<String> face) {
        doc.says(line);
        String bare = line.replaceAll("(int|long|boolean) [a-zA-Z]+(?=[,)])", "$1").replace(", ", ",");
        doc.is("is of the class", face.remove(bare) ? 1 : 0, 1);
    }

    private static void thePublicFace() throws Exception {
        doc.says("## The public face");
        doc.says("public final class CranePads {");
        doc.is("it is", kind(CranePads.class.getModifiers()).equals("public final ") ? 1 : 0, 1);
        doc.says("public static final int NONE = -1, BAD = -2, STATE = -3, FULL = -4;");
        doc.is("NONE", CranePads.NONE, -1);
        doc.is("BAD", CranePads.BAD, -2);
        doc.is("STATE", CranePads.STATE, -3);
        doc.is("FULL", CranePads.FULL, -4);
        doc.says("public static final long NO = Long.MIN_VALUE;");
        doc.is("NO", CranePads.NO, -9223372036854775807L - 1);
        List<String> face = new ArrayList<>();
        for (Constructor<?> one : CranePads.class.getDeclaredConstructors()) {
            face.add(kind(one.getModifiers()) + "CranePads" + types(one.getParameterTypes()) + ";");
        }
        for (Method one : CranePads.class.getDeclaredMethods()) {
            if (!Modifier.isPrivate(one.getModifiers())) {
                String name = one.getReturnType().getSimpleName() + " " + one.getName();
                face.add(kind(one.getModifiers()) + name + types(one.getParameterTypes()) + ";");
            }
        }
        theLinesOfTheFace(face);
        doc.says("}");
        doc.is("and no other: " + face, face.size(), 0);
    }

    private static void theLinesOfTheFace(List<String> face) {
        String[] lines = {"CranePads()", "int pad(int pad, int x, int y, int limit)",
            "int part(int mass, int a, int b, boolean turning)", "int mass(int part, int v)", "int put(int what, int v)",
            "int told(int what)", "long padOf(int pad, int what)", "int entry(int chart, int reach, int v)",
            "int read(int chart, int reach)", "int allowed(int direction, int reach)", "int weight()",
            "long centre(int what, int part)", "long moment(int edge, int part)", "long factor(int edge, int part)",
            "long push(int pad, int part)", "int lifted()", "int mat(int pad)", "int why()", "int most()",
            "int where(int reach)", "int farthest(int direction)", "int way(int direction, int reach)",
            "int ballast(int part)", "int feed(int letter)", "int clear()", "int plan()", "int checked(int what)",
            "long spare()", "int done()", "int backward()", "int seen(int list, int i, int what)",
            "int lay(int list, int i)", "int book()", "int booked(int i, int what)", "int heaviest()",
            "int list(int list, int n)", "int set(int list, int i, long v)", "long get(int list, int i)",
            "int count(int what)", "int image()", "int undo()"};
        for (String line : lines) {
            faceHas("public " + line + ";", face);
        }
    }

    // ---- pads, parts

    private static void pads() {
        doc.says("## Terms 3: X, Y (-30 .. 30), LIMIT (0 .. 9999);");
        CranePads x = new CranePads();
        int[][] right = {{-30, 30, 0}, {30, -30, 9999}, {0, 0, 1}};
        for (int[] one : right) {
            doc.is("taken", x.pad(0, one[0], one[1], one[2]) < 0 ? 0 : 1, 1);
            for (int what = 0; what < 3; what++) {
                doc.is("kept", x.padOf(0, what), one[what]);
            }
        }
        int[][] wrong = {{-31, 0, 5}, {31, 0, 5}, {0, -31, 5}, {0, 31, 5}, {0, 0, -1}, {0, 0, 10000}};
        for (int[] one : wrong) {
            doc.is("not taken", x.pad(0, one[0], one[1], one[2]), Due.BAD);
        }
        doc.says("at first 10 10, -10 10, -10 -10, 10 -10, LIMIT 9999 each.");
        CranePads y = new CranePads();
        for (int pad = 0; pad < 4; pad++) {
            doc.is("X", y.padOf(pad, 0), FIRST_X[pad]);
            doc.is("Y", y.padOf(pad, 1), FIRST_Y[pad]);
            doc.is("LIMIT", y.padOf(pad, 2), 9999);
        }
    }

    private static void standing() {
        doc.says("It STANDS, if of PADS k, k + 1, k + 2 (round) each three turn to the left (strictly).");
        for (int pad = 0; pad < 4; pad++) {
            CranePads x = new CranePads();
            int outX = FIRST_X[pad] / 10;
            int outY = FIRST_Y[pad] / 10;
            doc.is("one out of the line of its neighbours", x.pad(pad, outX, outY, 5), 1);
            doc.is("on that line", x.pad(pad, 0, 0, 5), 0);
            doc.is("one within it", x.pad(pad, -outX, -outY, 5), 0);
            doc.is("above another PAD", x.pad(pad, -10 * outX, -10 * outY, 5), 0);
        }
        CranePads right = new CranePads();
        for (int pad = 0; pad < 4; pad++) {
            right.pad(pad, FIRST_Y[pad], FIRST_X[pad], 5);
        }
        doc.is("all to the right", right.count(6), 0);
    }

    private static void edges() {
        doc.says("EDGE k goes from PAD k to PAD k + 1 (round).");
        for (int pad = 0; pad < 4; pad++) {
            CranePads x = new CranePads();
            x.part(1, FIRST_X[pad], FIRST_Y[pad], false);
            doc.is("what is above PAD k", x.moment(pad, 0), 0);
            doc.is("and EDGE k - 1", x.moment((pad + 3) % 4, 0), 0);
            doc.is("and EDGE k + 1", x.moment((pad + 1) % 4, 0), 400);
            doc.is("and EDGE k + 2", x.moment((pad + 2) % 4, 0), 400);
        }
    }

    private static void parts() {
        doc.says("PARTS 0 .. 7, as they come: MASS (1 .. 999), A, B (-40 .. 40), TURNING or not.");
        CranePads x = new CranePads();
        int[][] wrong = {{0, 0, 0}, {1000, 0, 0}, {5, -41, 0}, {5, 41, 0}, {5, 0, -41}, {5, 0, 41}};
        for (int[] one : wrong) {
            doc.is("not taken", x.part(one[0], one[1], one[2], true), Due.BAD);
        }
        for (int part = 0; part < 8; part++) {
            int out = part % 2 == 0 ? 40 : -40;
            doc.is("number", x.part(part == 0 ? 1 : 999, out, -out, part > 3), part);
        }
        doc.is("no ninth", x.part(1, 0, 0, false), Due.FULL);
        doc.is("MASS", x.weight(), 1 + 7 * 999);
        doc.says("GROUND: 1 .. 999 (50 at first).");
        doc.is("at first", x.put(4, 1), 50);
        doc.is("the least", x.put(4, 999), 1);
        doc.is("none is less", x.put(4, 0), Due.BAD);
        doc.is("none is more", x.put(4, 1000), Due.BAD);
        doc.is("the greatest", x.told(4), 999);
    }

    // ---- directions, the centre, moments

    private static void directions() {
        doc.says("DIRECTIONS 0 .. 19: 5 q and i (i 0 .. 4): of i the vector (1, 0), (12/13, 5/13), (4/5, 3/5), (3/5, 4/5),"
            + " (5/13, 12/13), turned q quarters to the left.");
        int[][] vectors = {{1, 0, 1}, {12, 5, 13}, {4, 3, 5}, {3, 4, 5}, {5, 12, 13}};
        CranePads x = new CranePads();
        x.put(3, 1);
        x.put(1, 1);
        for (int direction = 0; direction < 20; direction++) {
            int[] v = vectors[direction % 5];
            int c = v[0];
            int s = v[1];
            for (int q = 0; q < direction / 5; q++) {
                int turned = -s;
                s = c;
                c = turned;
            }
            x.put(0, direction);
            doc.fraction("c of " + direction, x.centre(0, 0), x.centre(0, 1), c, v[2]);
            doc.fraction("s of " + direction, x.centre(1, 0), x.centre(1, 1), s, v[2]);
        }
        doc.is("no DIRECTION 20", x.put(0, 20), Due.BAD);
        doc.is("none below 0", x.put(0, -1), Due.BAD);
        doc.says("DIRECTION (0 at first), REACH (0 .. 60; 5 at first), HOOK (0 .. 999: what hangs besides a LOAD; 0 at"
            + " first), LOAD (0 .. 9999; 0 at first).");
        dials(new int[] {0, 1, 2, 3}, new int[] {0, 5, 0, 0}, new int[] {19, 60, 999, 9999});
    }

    /** What each is at first, and that it goes from 0 up to the greatest, and no farther. */
    private static void dials(int[] whats, int[] first, int[] greatest) {
        CranePads x = new CranePads();
        for (int i = 0; i < whats.length; i++) {
            doc.is(whats[i] + " at first", x.told(whats[i]), first[i]);
            doc.is(whats[i] + " is 0", x.put(whats[i], 0), first[i]);
            doc.is(whats[i] + " is the greatest", x.put(whats[i], greatest[i]), 0);
            doc.is(whats[i] + " is not less", x.put(whats[i], -1), Due.BAD);
            doc.is(whats[i] + " is not more", x.put(whats[i], greatest[i] + 1), Due.BAD);
            doc.is(whats[i] + " stays so", x.told(whats[i]), greatest[i]);
        }
    }

    private static void places() {
        doc.says("A PART that isn't TURNING is at (A, B); one that is: at A times (c, s) and B times (-s, c), (c, s) being"
            + " the vector of DIRECTION.");
        CranePads x = new CranePads();
        x.put(0, 7);
        x.part(2, 3, -2, false);
        doc.fraction("(A, B)", x.centre(0, 0), x.centre(0, 1), 3, 1);
        doc.fraction("(A, B)", x.centre(1, 0), x.centre(1, 1), -2, 1);
        CranePads y = new CranePads();
        y.put(0, 7);
        y.part(2, 3, -2, true);
        doc.fraction("3 (-3/5, 4/5) and -2 (-4/5, -3/5)", y.centre(0, 0), y.centre(0, 1), -1, 5);
        doc.fraction("3 (-3/5, 4/5) and -2 (-4/5, -3/5)", y.centre(1, 0), y.centre(1, 1), 18, 5);
        doc.says("LOAD and HOOK are at REACH times (c, s).");
        for (int what = 2; what < 4; what++) {
            CranePads z = new CranePads();
            z.put(what, 9);
            z.put(0, 13);
            z.put(1, 60);
            doc.fraction("60 times (-3/5, -4/5)", z.centre(0, 0), z.centre(0, 1), -36, 1);
            doc.fraction("60 times (-3/5, -4/5)", z.centre(1, 0), z.centre(1, 1), -48, 1);
        }
        doc.says("What has MASS 0 counts for nothing.");
        CranePads z = new CranePads();
        z.put(1, 60);
        doc.is("no CENTRE", z.centre(0, 0), Due.NO);
        doc.is("no MOMENT", z.moment(3, 0), 0);
        doc.is("no TIPPING", z.factor(3, 0), Due.NO);
    }

    /** 100 in the middle, 50 at (-2, -6) by DIRECTION 5, a LOAD of 20 and a HOOK of 5 at (0, 8). */
    private static CranePads weighed() {
        CranePads x = new CranePads();
        x.part(100, 0, 0, false);
        x.part(50, -6, 2, true);
        x.put(0, 5);
        x.put(1, 8);
        x.put(2, 5);
        x.put(3, 20);
        return x;
    }

    private static void centreAndMoments() {
        CranePads x = weighed();
        doc.says("ALL: PARTS, LOAD, HOOK. W: MASS of ALL.");
        doc.is("100 and 50 and 20 and 5", x.weight(), 175);
        doc.says("CENTRE: of all MASS times place, by W (none, if W is 0).");
        doc.fraction("X", x.centre(0, 0), x.centre(0, 1), 50 * -2, 175);
        doc.fraction("Y", x.centre(1, 0), x.centre(1, 1), 50 * -6 + 25 * 8, 175);
        for (int what = 0; what < 2; what++) {
            doc.is("none", new CranePads().centre(what, 0), Due.NO);
            doc.is("none", new CranePads().centre(what, 1), Due.NO);
        }
        doc.says("MOMENT of something about EDGE k: its MASS times what (PAD k + 1 less PAD k) and (its place less PAD k)"
            + " span to the left (x1 y2 - y1 x2).");
        CranePads y = new CranePads();
        y.part(3, 4, -1, false);
        doc.is("3 times (-20, 0) and (-6, -11)", y.moment(0, 0), 3 * 220);
        doc.is("3 times (0, -20) and (14, -11)", y.moment(1, 0), 3 * 280);
        doc.is("3 times (20, 0) and (14, 9)", y.moment(2, 0), 3 * 180);
        doc.is("3 times (0, 20) and (-6, 9)", y.moment(3, 0), 3 * 120);
        doc.says("MOMENT of ALL: added up.");
        int[] added = {37000, 33000, 33000, 37000};
        for (int edge = 0; edge < 4; edge++) {
            doc.fraction("about " + edge, x.moment(edge, 0), x.moment(edge, 1), added[edge], 1);
        }
        doc.says("HOLDING, TIPPING of an EDGE: of all that is above 0, of all that is below 0 (without sign).");
        x.put(1, 20);
        doc.fraction("20000 and 16000 by 5000", x.factor(0, 0), x.factor(0, 1), 36, 5);
        doc.is("no TIPPING", x.factor(1, 0), Due.NO);
        doc.is("no TIPPING", x.factor(2, 1), Due.NO);
    }

    // ---- tipping, pushes, mats

    /** 100 in the middle, all may hang: a LOAD of 100 may hang 20 out, and no farther. */
    private static CranePads balanced() {
        CranePads x = new CranePads();
        x.part(100, 0, 0, false);
        x.entry(0, 60, 9999);
        return x;
    }

    private static void tipping() {
        doc.says("It TIPS, if MOMENT of ALL about any EDGE is below 0 (or it doesn't STAND).");
        for (int q = 0; q < 4; q++) {
            CranePads x = balanced();
            x.put(0, 5 * q);
            x.put(1, 20);
            x.put(3, 100);
            doc.is("0 about an EDGE", x.why(), 0);
            x.put(3, 101);
            doc.is("below 0", x.why(), 2);
            doc.is("no PUSHES then", x.lifted(), Due.STATE);
        }
        CranePads x = balanced();
        x.pad(0, -10, -10, 9999);
        doc.is("it doesn't STAND", x.lifted(), Due.STATE);
        doc.is("it MAY not", x.most(), Due.NOT_SO);
    }

    private static void pushesAre(CranePads x, int lifted, int... doubled) {
        for (int pad = 0; pad < 4; pad++) {
            doc.fraction("PUSH of " + pad, x.push(pad, 0), x.push(pad, 1), doubled[pad], 2);
        }
        doc.is("LIFTED", x.lifted(), lifted);
    }

    private static CranePads with(int mass, int a, int b) {
        CranePads x = new CranePads();
        x.part(mass, a, b, false);
        return x;
    }

    /** PADS at (10, 10), (-10, 10), (-10, -10), (20, -10): of 100 in the middle b is -5/13, c -5/52, a 675/26. */
    private static CranePads uneven() {
        CranePads x = with(100, 0, 0);
        x.pad(3, 20, -10, 9999);
        return x;
    }

    private static void unevenPushes(CranePads x) {
        int[] above = {275, 375, 400, 250};
        for (int pad = 0; pad < 4; pad++) {
            doc.fraction("PUSH of " + pad + " on uneven PADS", x.push(pad, 0), x.push(pad, 1), above[pad], 13);
        }
    }

    private static void pushes() {
        doc.says("PUSHES, if it STANDS and doesn't TIP and W is above 0: of PAD k a + b X + c Y, so that all are W, and of X"
            + " (and Y) times PUSH all are W times CENTRE's.");
        pushesAre(with(100, 2, 1), Due.NOT_SO, 65, 45, 35, 55);
        CranePads x = with(100, 0, 2);
        x.pad(2, -20, -10, 9999);
        x.pad(3, 20, -10, 9999);
        pushesAre(x, Due.NOT_SO, 60, 60, 40, 40);
        unevenPushes(uneven());
        doc.is("W is 0", new CranePads().push(0, 0), Due.NO);
        doc.is("it TIPS", with(100, 11, 0).push(0, 0), Due.NO);
        x.pad(3, -20, -10, 9999);
        doc.is("it doesn't STAND", x.push(0, 0), Due.NO);
        doc.says("If any is below 0: the PAD with the least (of several the least) is LIFTED (0), the other three bear it all"
            + " (by the same two laws); if one of these is below 0 then, there are no PUSHES.");
        pushesAre(with(100, 5, 5), Due.NOT_SO, 100, 50, 0, 50);
        pushesAre(with(100, 6, 6), 2, 120, 40, 0, 40);
        pushesAre(with(100, -6, 6), 3, 40, 120, 40, 0);
        pushesAre(with(100, -6, -6), 0, 0, 40, 120, 40);
        pushesAre(with(100, 6, -6), 1, 40, 0, 40, 120);
        pushesAre(with(100, 10, 10), 2, 200, 0, 0, 0);
    }

    private static void mats() {
        doc.says("MAT of a PAD: the least side (1 .. 60) whose square times GROUND is its PUSH or more.");
        CranePads x = with(100, 6, 6);
        doc.is("60 on 50", x.mat(0), 2);
        doc.is("20 on 50", x.mat(1), 1);
        doc.is("0 on 50", x.mat(2), 1);
        x.put(4, 15);
        doc.is("60 on 15", x.mat(0), 2);
        x.put(4, 14);
        doc.is("60 on 14", x.mat(0), 3);
        CranePads y = with(999, 0, 0);
        for (int part = 1; part < 8; part++) {
            y.part(999, 0, 0, false);
        }
        y.put(1, 0);
        y.put(3, 14400 - 8 * 999);
        y.put(4, 1);
        doc.is("3600 on 1", y.mat(0), 60);
        y.put(3, 14401 - 8 * 999);
        doc.is("a quarter more", y.mat(0), Due.NOT_SO);
    }

    // ---- charts, what may be

    private static void charts() {
        doc.says("CHARTS 0 .. 2: ENTRIES, 10 at most each, by REACH (0 .. 60), what may hang there (0 .. 9999).");
        CranePads x = new CranePads();
        for (int chart = 0; chart < 3; chart++) {
            for (int n = 0; n < 10; n++) {
                doc.is("an ENTRY more", x.entry(chart, n < 9 ? n : 60, n < 9 ? 9999 : 0), n + 1);
            }
            doc.is("no eleventh", x.entry(chart, 9, 1), Due.FULL);
        }
        int[][] wrong = {{0, -1, 5}, {0, 61, 5}, {0, 5, -2}, {0, 5, 10000}};
        for (int[] one : wrong) {
            doc.is("not taken", x.entry(one[0], one[1], one[2]), Due.BAD);
        }
        doc.is("no CHART 3", x.entry(3, 5, 5), Due.NONE);
        doc.says("READ at a REACH: of the ENTRY there; between two, a at REACH x and b at REACH y: (a * (y - r) + b * (r - x))"
            + " / (y - x), cut (10 at 5, 9 at 7: 9 at 6); ahead of the first: that of the first; behind the last, without"
            + " ENTRIES: 0.");
        CranePads y = new CranePads();
        doc.is("without ENTRIES", y.read(1, 5), 0);
        y.entry(1, 5, 10);
        y.entry(1, 7, 9);
        y.entry(1, 17, 39);
        int[] reaches = {0, 4, 5, 6, 7, 8, 9, 16, 17, 18, 60};
        int[] due = {10, 10, 10, 9, 9, 12, 15, 36, 39, 0, 0};
        for (int i = 0; i < reaches.length; i++) {
            doc.is("at " + reaches[i], y.read(1, reaches[i]), due[i]);
        }
    }

    private static void allowed() {
        doc.says("CHART in use (0 at first), WIND (0 .. 9; 0 at first), MANNER (0 HOOK, 1 GRAB, 2 MAGNET; 0 at first), QUARTER"
            + " q has PERCENT (0 .. 100; 100 at first): those DIRECTIONS 5 q to 5 q + 4.");
        dials(new int[] {5, 6, 7, 10, 11, 12, 13}, new int[] {0, 0, 0, 100, 100, 100, 100},
            new int[] {2, 9, 2, 100, 100, 100, 100});
        CranePads x = new CranePads();
        x.entry(2, 10, 99);
        x.put(5, 2);
        for (int q = 0; q < 4; q++) {
            x.put(10 + q, 10 * q);
        }
        for (int direction = 0; direction < 20; direction++) {
            doc.is("QUARTER of " + direction, x.allowed(direction, 10), 99 * 10 * (direction / 5) / 100);
        }
        doc.says("ALLOWED at a DIRECTION and REACH: READ; then 5 percent of it less for each WIND (cut: times 100 less 5 WIND by"
            + " 100); then by MANNER (HOOK: as it is; GRAB: three quarters, cut; MAGNET: as a GRAB, and WIND less, 0 at"
            + " least); then by PERCENT of the QUARTER (cut).");
        int[] whole = {84, 63, 60};
        int[] cut = {27, 20, 19};
        x.put(6, 3);
        for (int manner = 0; manner < 3; manner++) {
            x.put(7, manner);
            x.put(11, 100);
            doc.is("by MANNER " + manner, x.allowed(6, 10), whole[manner]);
            x.put(11, 33);
            doc.is("and by 33 percent", x.allowed(6, 10), cut[manner]);
        }
        x.entry(2, 10, 16);
        x.put(6, 9);
        x.put(11, 100);
        doc.is("8, then 6, less 9", x.allowed(6, 10), 0);
    }

    private static void may() {
        doc.says("MAY: it doesn't TIP, there are PUSHES, none is above its LIMIT, LOAD and HOOK together are ALLOWED or less.");
        CranePads x = with(100, 0, 0);
        x.entry(0, 0, 40);
        x.entry(0, 5, 30);
        x.put(1, 0);
        x.put(2, 8);
        x.put(3, 32);
        for (int pad = 0; pad < 4; pad++) {
            x.pad(pad, FIRST_X[pad], FIRST_Y[pad], 35);
        }
        doc.is("35 on each, 40 hang", x.why(), 0);
        doc.says("WHY not, the first of: 1 it doesn't STAND, 2 TIPS (or W is 0), 3 no PUSHES, 4 a LIMIT, 5 ALLOWED; 0 it MAY.");
        x.put(2, 9);
        doc.is("a LIMIT ahead of ALLOWED", x.why(), 4);
        x.mass(0, 99);
        doc.is("ALLOWED alone", x.why(), 5);
        x.put(3, 31);
        doc.is("it MAY", x.why(), 0);
        x.put(3, 9999);
        x.put(1, 60);
        doc.is("TIPS ahead of both", x.why(), 2);
        x.pad(3, 0, 0, 0);
        doc.is("it doesn't STAND", x.why(), 1);
        doc.is("W is 0", new CranePads().why(), 2);
    }

    // ---- ==== 2

    private static void inThought() {
        doc.says("==== 2 In thought (all else as it is): the MOST: the greatest LOAD (0 .. 999) by which it MAY; -5.");
        CranePads x = balanced();
        x.put(3, 100);
        x.put(1, 20);
        doc.is("100 against 100", x.most(), 100);
        doc.is("LOAD stays", x.told(3), 100);
        x.put(2, 30);
        doc.is("with the HOOK", x.most(), 70);
        x.put(2, 100);
        doc.is("the HOOK and no more", x.most(), 0);
        x.put(2, 101);
        doc.is("none", x.most(), Due.NOT_SO);
        x.put(2, 0);
        x.put(1, 10);
        doc.is("999 and no more", x.most(), 999);
        doc.says("WHERE: DIRECTIONS (bits) at which it MAY at a REACH;");
        doc.is("20 out", x.where(20), (1 << 20) - 1);
        doc.is("21 out", x.where(21), (1 << 20) - 1 - (1 << 0) - (1 << 5) - (1 << 10) - (1 << 15));
        doc.is("60 out", x.where(60), 0);
        doc.says("FARTHEST: the greatest REACH (0 .. 60) at which it MAY at a DIRECTION; -5.");
        int[] farthest = {20, 21, 25, 25, 21};
        for (int direction = 0; direction < 20; direction++) {
            doc.is("at " + direction, x.farthest(direction), farthest[direction % 5]);
        }
        doc.is("REACH stays", x.told(1), 10);
        x.put(3, 0);
        doc.is("60", x.farthest(0), 60);
        x.put(13, 0);
        x.put(2, 1);
        doc.is("none", x.farthest(15), Due.NOT_SO);
        x.entry(0, 0, 1);
        x.entry(0, 60, 0);
        doc.is("0", x.farthest(0), 0);
    }

    private static void waysAndBallast() {
        doc.says("WAY: the fewest MOVES (DIRECTION one on or back, round; REACH one more or less) from where it is to a DIRECTION"
            + " and REACH, it MAY be so at all, the first and the last too; -5.");
        CranePads x = balanced();
        x.put(3, 100);
        doc.is("as it is", x.way(0, 5), 0);
        doc.is("on", x.way(3, 5), 3);
        doc.is("back, round", x.way(19, 5), 1);
        doc.is("both", x.way(10, 20), 25);
        doc.is("the last MAY not", x.way(0, 21), Due.NOT_SO);
        x.put(0, 4);
        x.put(1, 21);
        doc.is("about DIRECTION 5", x.way(6, 21), 4);
        x.put(0, 5);
        doc.is("the first MAY not", x.way(5, 20), Due.NOT_SO);
        doc.is("and is the last", x.way(5, 21), Due.NOT_SO);
        doc.says("BALLAST: the least MASS (1 .. 999) of a PART by which it MAY; -5.");
        x.put(1, 20);
        doc.is("against 100", x.ballast(0), 100);
        x.put(3, 999);
        doc.is("against 999", x.ballast(0), 999);
        x.put(3, 1000);
        doc.is("none", x.ballast(0), Due.NOT_SO);
        x.put(3, 0);
        doc.is("the least", x.ballast(0), 1);
        doc.is("MASS stays", x.mass(0, 5), 100);
    }

    private static void tapes() {
        doc.says("PLAN: THE TAPE (100 bytes at most):");
        CranePads x = Due.firm();
        doc.is("100", Due.feed(x, Due.times(100, ";")), 100);
        doc.is("no more", x.feed(';'), Due.FULL);
        doc.says("STEPS, one or more, parted by ; :");
        CranePads y = Due.firm();
        doc.is("none", Due.plan(y, ""), -100);
        doc.is("one", Due.plan(y, "set"), 1);
        doc.is("more", Due.plan(y, "set;wind 1;set"), 3);
        doc.is("not parted", Due.plan(y, "wind 1 set"), -106);
        doc.says("take N (LOAD becomes N), slew N (DIRECTION becomes N, one by one, the shorter way round, of like ones on), reach"
            + " N (REACH becomes N, one by one), set (LOAD becomes 0), wind N.");
        doc.is("five STEPS", Due.plan(y, "take 7;slew 9;reach 3;wind 2"), 4);
        doc.is("MOMENTS", y.done(), 1 + 1 + 9 + 2 + 1);
        int[] is = {9, 3, 0, 7, 50, 0, 2};
        for (int what = 0; what < is.length; what++) {
            doc.is("of " + what, y.told(what), is[what]);
        }
        Due.plan(y, "set;slew 19");
        doc.is("the way of ten", y.done(), 1 + 1 + 10);
        doc.is("LOAD is 0", y.told(3), 0);
        Due.plan(y, "slew 8");
        doc.is("the shorter way", y.done(), 1 + 9);
    }

    private static void likeWaysGoOn() {
        CranePads z = Due.firm();
        z.put(3, 1);
        z.put(13, 0);
        z.put(12, 0);
        Due.plan(z, "slew 10");
        doc.is("of like ones on: only the last MAY not", z.checked(1), 10);
        z.put(13, 100);
        z.put(10, 0);
        doc.is("the first MAY not", z.checked(1), 0);
    }

    private static void numbersOfSteps() {
        doc.says("N (take 0 .. 9999, slew 0 .. 19, reach 0 .. 60, wind 0 .. 9): 1 to 4 figures (no more are taken; they are looked"
            + " at ahead of the byte behind), one blank ahead.");
        String[] words = {"take", "slew", "reach", "wind"};
        int[] greatest = {9999, 19, 60, 9};
        CranePads x = Due.firm();
        for (int i = 0; i < words.length; i++) {
            int begin = words[i].length() + 1;
            doc.is("0", Due.plan(x, words[i] + " 0"), 1);
            doc.is("0000", Due.plan(x, words[i] + " 0000"), 1);
            doc.is("the greatest", Due.plan(x, words[i] + " " + greatest[i]), 1);
            doc.is("one more", Due.plan(x, words[i] + " " + (greatest[i] + 1)), -100 - begin - (i == 0 ? 4 : 0));
            doc.is("five figures", Due.plan(x, words[i] + " 00001"), -100 - begin - 4);
            doc.is("two blanks", Due.plan(x, words[i] + "  1"), -100 - begin);
            doc.is("no blank", Due.plan(x, words[i] + "1"), -100 - begin + 1);
        }
        doc.is("ahead of the byte behind", Due.plan(x, "slew 20x"), -105);
        doc.is("the byte behind", Due.plan(x, "slew 19x"), -107);
    }

    private static void faults() {
        doc.says("A word is as many letters a .. z as stand there.");
        CranePads x = Due.firm();
        doc.is("sets", Due.plan(x, "sets"), -100);
        doc.is("set and A", Due.plan(x, "setA"), -103);
        doc.is("winds", Due.plan(x, "set;winds 1"), -104);
        doc.says("FAULT (the first that is met from the left): of a word that is no STEP, where it begins (an empty one, too);");
        doc.is("lift", Due.plan(x, "set;lift 3"), -104);
        doc.is("an empty one", Due.plan(x, "set;;set"), -104);
        doc.is("a great letter", Due.plan(x, "Set"), -100);
        doc.is("the first of two", Due.plan(x, "wind 1;up;down"), -107);
        doc.says("of a N that may not be, where it begins;");
        doc.is("wind 10", Due.plan(x, "set;wind 10"), -109);
        doc.is("no figure", Due.plan(x, "set;wind x"), -109);
        doc.says("otherwise the place (from 0) of the first byte with which no such text goes on;");
        doc.is("a blank behind set", Due.plan(x, "set 0"), -103);
        doc.is("a dot behind N", Due.plan(x, "take 5."), -106);
        doc.says("the length, if it ends too early.");
        doc.is("take", Due.plan(x, "take"), -104);
        doc.is("take and a blank", Due.plan(x, "take "), -105);
        doc.is("set;", Due.plan(x, "set;"), -104);
        doc.is("se", Due.plan(x, "se"), -100);
    }

    private static void moments() {
        doc.says("MOMENTS of a PLAN: as it is, then one behind each STEP (slew, reach: behind each one on or back of it; none, if"
            + " it is there already).");
        CranePads x = Due.firm();
        Due.plan(x, "slew 0;reach 5");
        doc.is("there already", x.checked(0), 1);
        Due.plan(x, "take 0;set;wind 0");
        doc.is("one behind each", x.checked(0), 4);
        Due.plan(x, "slew 18;slew 1;reach 3;reach 7");
        doc.is("each on or back", x.checked(0), 1 + 2 + 3 + 2 + 4);
        doc.says("CHECKED: how many MOMENTS there are; the first (from 0) in which it MAY not; the STEP (from 0) it is in (-5: as"
            + " it is at first); WHY; the least of ALLOWED less LOAD and HOOK in any.");
        CranePads y = balanced();
        y.put(2, 5);
        Due.plan(y, "slew 2;take 95;reach 30;set");
        checkedIs(y, 1 + 2 + 1 + 25 + 1, 4 + 20, 2, 2);
        doc.is("the least", y.spare(), 9999 - 100);
        y.put(2, 0);
        y.entry(0, 60, 94);
        checkedIs(y, 1 + 2 + 1 + 25 + 1, 3, 1, 5);
        doc.is("the least", y.spare(), -1);
        y.put(3, 95);
        checkedIs(y, 1 + 2 + 1 + 25 + 1, 0, Due.NOT_SO, 5);
        y.put(3, 0);
        y.entry(0, 60, 95);
        Due.plan(y, "slew 2;take 95;reach 20;set");
        checkedIs(y, 1 + 2 + 1 + 15 + 1, Due.NOT_SO, Due.NOT_SO, 0);
        doc.is("the least", y.spare(), 0);
        doc.says("A PLAN that is DONE truly changes all so.");
        doc.is("MOMENTS", y.done(), 1 + 2 + 1 + 15 + 1);
        doc.is("DIRECTION", y.told(0), 2);
        doc.is("REACH", y.told(1), 20);
        doc.is("LOAD", y.told(3), 0);
    }

    private static void checkedIs(CranePads x, int... due) {
        for (int what = 0; what < 4; what++) {
            doc.is("what " + what, x.checked(what), due[what]);
        }
    }

    private static void seenAndBook() {
        doc.says("SEEN: PUSHES told in a LIST (4 numbers from a place on, each a PUSH cut to a whole): LOADS (0 .. 999) by which"
            + " all is so: how many; the least; -5.");
        CranePads x = with(100, 0, 0);
        x.put(1, 0);
        x.list(2, 6);
        int[] told = {24, 25, 26, 274, 275};
        int[] many = {0, 4, 4, 4, 0};
        int[] least = {Due.NOT_SO, 0, 4, 996, Due.NOT_SO};
        for (int i = 0; i < told.length; i++) {
            for (int place = 1; place < 5; place++) {
                x.set(2, place, told[i]);
            }
            doc.is("how many by " + told[i], x.seen(2, 1, 0), many[i]);
            doc.is("the least by " + told[i], x.seen(2, 1, 1), least[i]);
        }
        doc.says("BOOK: lifts, 8 at most, as they come (the eldest goes): LOAD, DIRECTION, REACH as they were when kept.");
        CranePads y = Due.firm();
        for (int lift = 0; lift < 10; lift++) {
            y.put(3, 100 + lift);
            y.put(0, 1 + lift);
            y.put(1, 20 - lift);
            doc.is("how many", y.book(), Math.min(lift + 1, 8));
        }
        for (int i = 0; i < 8; i++) {
            doc.is("LOAD", y.booked(i, 0), 102 + i);
            doc.is("DIRECTION", y.booked(i, 1), 3 + i);
            doc.is("REACH", y.booked(i, 2), 18 - i);
        }
        doc.is("no ninth", y.booked(8, 0), Due.NONE);
        doc.says("HEAVIEST: that with most LOAD times REACH, of several the eldest.");
        doc.is("102 times 18", y.heaviest(), 0);
        y.put(3, 34);
        y.put(1, 54);
        y.book();
        doc.is("34 times 54 is more than 103 times 17", y.heaviest(), 7);
        y.put(3, 54);
        y.put(1, 34);
        y.book();
        doc.is("54 times 34 is as much", y.heaviest(), 6);
    }

    // ---- ==== 3

    private static void listsAndFractions() {
        doc.says("==== 3 LISTS 0 .. 3 hold nothing (at first) or a row of 0 .. 30 longs.");
        CranePads x = Due.firm();
        for (int list = 0; list < 4; list++) {
            doc.is("nothing", x.set(list, 0, 5), Due.NOTHING);
            doc.is("30", x.list(list, 30), 1);
            doc.is("a long", x.set(list, 29, Long.MAX_VALUE - list), 1);
            doc.is("that long", x.get(list, 29), Long.MAX_VALUE - list);
            doc.is("0", x.list(list, 0), 1);
        }
        doc.is("no LIST 4", x.list(4, 5), Due.NONE);
        doc.says("NOTHING (-11): there is none; BEYOND (-13): no such place; BELOW (-14): a size below 0.");
        doc.is("NOTHING", new CranePads().set(0, 0, 1), -11);
        doc.is("BEYOND", x.set(0, 0, 1), -13);
        doc.is("BELOW", x.list(0, -1), -14);
        doc.says("Fractions are told in lowest terms: part 0 above (below 0, too), 1 below the line.");
        CranePads y = with(6, -4, 0);
        y.part(4, 0, 0, false);
        doc.is("-24/10 above", y.centre(0, 0), -12);
        doc.is("-24/10 below", y.centre(0, 1), 5);
        doc.is("0/10 above", y.centre(1, 0), 0);
        doc.is("0/10 below", y.centre(1, 1), 1);
        doc.is("no part 2", y.centre(0, 2), Due.NO);
        doc.is("no part -1", y.centre(0, -1), Due.NO);
    }

    private static void theImage() {
        doc.says("THE IMAGE: all of 1 (the PLAN, BOOK, LISTS, THE TAPE aren't in it, and stay by undo()).");
        CranePads x = Due.firm();
        x.image();
        x.pad(2, -9, -8, 7);
        x.part(5, 1, 1, true);
        x.mass(0, 3);
        x.entry(0, 60, 1);
        x.entry(1, 5, 5);
        int[] dials = {0, 1, 2, 3, 4, 5, 6, 7, 10, 11, 12, 13};
        int[] first = {0, 5, 0, 0, 50, 0, 0, 0, 100, 100, 100, 100};
        for (int dial : dials) {
            x.put(dial, dial % 2 + 1);
        }
        x.book();
        x.list(1, 3);
        x.set(1, 2, -8);
        Due.plan(x, "slew 4;set");
        Due.feed(x, "wind");
        doc.is("PARTS", x.undo(), 1);
        for (int i = 0; i < dials.length; i++) {
            doc.is("of " + dials[i], x.told(dials[i]), first[i]);
        }
        doc.is("a PAD", x.padOf(2, 0) * 10000 + x.padOf(2, 1) * 100 + x.padOf(2, 2), -100000 - 1000 + 9999);
        doc.is("ENTRIES", x.read(0, 60), 9999);
        doc.is("ENTRIES", x.count(4), 0);
        doc.is("MASS", x.mass(0, 1), 900);
        doc.is("the PLAN stays", x.count(2), 2);
        doc.is("THE TAPE stays", x.count(1), 4);
        doc.is("the BOOK stays", x.booked(0, 0), 2);
        doc.is("LISTS stay", x.get(1, 2), -8);
        CranePads y = uneven();
        y.image();
        y.pad(0, 30, 30, 9999);
        y.pad(3, 0, 0, 9999);
        y.undo();
        unevenPushes(y);
    }

    private static void answers() {
        doc.says("Answers: NONE (-1) no such number; BAD (-2) a number is not as told; STATE (-3) as told; FULL (-4);");
        CranePads x = Due.firm();
        doc.is("NONE", x.told(8), -1);
        doc.is("BAD", x.put(6, 10), -2);
        doc.is("STATE", x.undo(), -3);
        for (int part = 1; part < 8; part++) {
            x.part(1, 0, 0, false);
        }
        doc.is("FULL", x.part(1, 0, 0, false), -4);
        doc.says("the first that a call's words name (-5 is told only where none of them is).");
        doc.is("BAD ahead of FULL", x.part(0, 0, 0, false), -2);
        doc.is("NONE ahead of BAD", x.mass(8, 0), -1);
        doc.is("NONE ahead of -5", new CranePads().farthest(20), -1);
        doc.is("BAD ahead of -5", new CranePads().way(0, 61), -2);
        doc.is("NONE ahead of STATE", new CranePads().checked(4), -1);
        doc.is("STATE ahead of -5", new CranePads().lifted(), -3);
        doc.is("NONE ahead of NOTHING", x.lay(4, -1), -1);
        doc.is("NOTHING ahead of STATE", new CranePads().lay(0, -1), -11);
        doc.says("What is answered so changes nothing (but LISTS by BEYOND, as told); what is asked changes nothing but LISTS that are"
            + " told.");
        x.list(0, 2);
        doc.is("BEYOND", x.lay(0, 1), -13);
        doc.is("a place before", x.get(0, 0), 0);
        doc.is("laid all the same", x.get(0, 1), 226);
        doc.is("BAD changed nothing", x.told(6), 0);
        doc.is("FULL changed nothing", x.count(0), 8);
        x.most();
        x.where(9);
        x.way(3, 9);
        x.ballast(1);
        x.farthest(7);
        doc.is("DIRECTION", x.told(0), 0);
        doc.is("REACH", x.told(1), 5);
        doc.is("LOAD", x.told(3), 0);
        doc.is("W", x.weight(), 907);
        doc.says("-100 less the FAULT of a text; THE TAPE is empty behind each call that reads it.");
        doc.is("a FAULT", Due.plan(x, "set;x"), -104);
        doc.is("empty", x.count(1), 0);
        doc.is("a PLAN", Due.plan(x, "set"), 1);
        doc.is("empty", x.count(1), 0);
        doc.says("The constants: `NO = Long.MIN_VALUE`: No such number.");
        doc.is("NO", x.padOf(4, 0), Long.MIN_VALUE);
    }

    private static void whatTheInterfaceSays() {
        String[][] calls = {
            {"what is told", "pad", "part", "mass", "put", "told", "padOf", "entry", "read", "allowed"},
            {"as it is", "weight", "centre", "moment", "factor", "push", "lifted", "mat", "why"},
            {"in thought", "most", "where", "farthest", "way", "ballast"},
            {"plans", "feed", "clear", "plan", "checked", "spare", "done", "backward"},
            {"seen, the book", "seen", "lay", "book", "booked", "heaviest"},
            {"rows, the image", "list", "set", "get", "count", "image", "undo"}};
        for (String[] one : calls) {
            List<String> names = new ArrayList<>();
            for (int i = 1; i < one.length; i++) {
                names.add("`" + one[i] + "`");
            }
            doc.says("Ahead of the calls " + String.join(", ", names) + " the interface says: ---- " + one[0] + ".");
        }
    }

    public static void main(String[] args) throws Exception {
        doc = Reading.from("# CranePads");
        whatItIs();
        thePublicFace();
        pads();
        standing();
        edges();
        parts();
        directions();
        places();
        centreAndMoments();
        tipping();
        pushes();
        mats();
        charts();
        allowed();
        may();
        inThought();
        waysAndBallast();
        tapes();
        likeWaysGoOn();
        numbersOfSteps();
        faults();
        moments();
        seenAndBook();
        listsAndFractions();
        theImage();
        answers();
        whatTheInterfaceSays();
        doc.goesUpTo("## Promise 1:");
    }
}
