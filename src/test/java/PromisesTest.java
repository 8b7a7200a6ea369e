/** Each promise of the document by hand: ordinary inputs, edges, wrong inputs. */
public final class PromisesTest {
    private static final int NONE = -1, BAD = -2, STATE = -3, FULL = -4, NOT_SO = -5;
    private static final int NOTHING = -11, BEYOND = -13, BELOW = -14;
    private static final long NO = Long.MIN_VALUE;
    private static int wrong = 0;
    private static int asked = 0;

    private static void due(String what, long got, long want) {
        asked++;
        if (got != want) {
            wrong++;
            System.out.println(what + " answered " + got + ", due is " + want);
        }
    }

    private static void fraction(String what, long above, long below, long wantAbove, long wantBelow) {
        due(what + ", above", above, wantAbove);
        due(what + ", below", below, wantBelow);
    }

    private static void feed(CranePads x, String text) {
        for (int i = 0; i < text.length(); i++) {
            due("feed of " + text, x.feed(text.charAt(i)), i + 1);
        }
    }

    private static int plan(CranePads x, String text) {
        feed(x, text);
        return x.plan();
    }

    /** One heavy PART in the middle, and a CHART that allows much everywhere. */
    private static CranePads firm() {
        CranePads x = new CranePads();
        x.part(900, 0, 0, false);
        x.entry(0, 60, 9999);
        return x;
    }

    private static void aNewObject() {
        CranePads x = new CranePads();
        int[] first = {0, 5, 0, 0, 50, 0, 0, 0, NONE, NONE, 100, 100, 100, 100};
        for (int what = 0; what < first.length; what++) {
            due("1 told " + what, x.told(what), first[what]);
        }
        int[][] pads = {{10, 10, 9999}, {-10, 10, 9999}, {-10, -10, 9999}, {10, -10, 9999}};
        for (int k = 0; k < 4; k++) {
            for (int what = 0; what < 3; what++) {
                due("1 padOf", x.padOf(k, what), pads[k][what]);
            }
        }
        for (int what = 0; what <= 5; what++) {
            due("1 count " + what, x.count(what), 0);
        }
        due("1 stands", x.count(6), 1);
        due("1 no image", x.undo(), STATE);
        due("1 no plan", x.checked(0), STATE);
        due("1 no book", x.heaviest(), NOT_SO);
        due("1 no list", x.set(0, 0, 1), NOTHING);
    }

    private static void pads() {
        CranePads x = new CranePads();
        due("2 edges of X, Y, LIMIT", x.pad(0, 30, 30, 0), 1);
        due("2 three in a row", x.pad(0, -10, 30, 9999), 0);
        due("2 another order", x.pad(0, -20, 0, 9999), 0);
        due("2 back", x.pad(0, 10, 10, 9999), 1);
        due("2 no pad", x.pad(-1, 0, 0, 0), NONE);
        due("2 no pad is named ahead of bad", x.pad(4, 99, 0, 0), NONE);
        due("2 X", x.pad(0, 31, 0, 0), BAD);
        due("2 X", x.pad(0, -31, 0, 0), BAD);
        due("2 Y", x.pad(0, 0, 31, 0), BAD);
        due("2 Y", x.pad(0, 0, -31, 0), BAD);
        due("2 LIMIT", x.pad(0, 0, 0, -1), BAD);
        due("2 LIMIT", x.pad(0, 0, 0, 10000), BAD);
        due("2 nothing changed", x.padOf(0, 0), 10);
        CranePads y = new CranePads();
        y.pad(0, 1, 1, 0);
        y.pad(1, 0, 1, 0);
        y.pad(2, 0, 0, 0);
        due("2 as small as can be", y.pad(3, 1, 0, 0), 1);
        due("2 a dent", x.pad(3, -5, 5, 9999), 0);
        due("7 X", x.padOf(3, 0), -5);
        due("7 Y", x.padOf(3, 1), 5);
        due("7 LIMIT", x.padOf(3, 2), 9999);
        due("7 no pad", x.padOf(4, 0), NO);
        due("7 no pad", x.padOf(-1, 0), NO);
        due("7 no what", x.padOf(0, 3), NO);
        due("7 no what", x.padOf(0, -1), NO);
        due("39 it doesn't stand", x.count(6), 0);
    }

    private static void parts() {
        CranePads x = new CranePads();
        due("3 MASS", x.part(0, 0, 0, false), BAD);
        due("3 MASS", x.part(1000, 0, 0, false), BAD);
        due("3 A", x.part(1, 41, 0, false), BAD);
        due("3 A", x.part(1, -41, 0, false), BAD);
        due("3 B", x.part(1, 0, 41, false), BAD);
        due("3 B", x.part(1, 0, -41, false), BAD);
        for (int i = 0; i < 8; i++) {
            due("3 numbers as they come", x.part(i == 0 ? 1 : 999, i % 2 == 0 ? 40 : -40, -40, i > 3), i);
        }
        due("3 eight", x.part(1, 0, 0, false), FULL);
        due("3 bad is named ahead of full", x.part(0, 0, 0, false), BAD);
        due("4 what it was", x.mass(0, 999), 1);
        due("4 what it was", x.mass(0, 5), 999);
        due("4 none", x.mass(8, 5), NONE);
        due("4 none", x.mass(-1, 0), NONE);
        due("4 bad", x.mass(0, 0), BAD);
        due("4 bad", x.mass(0, 1000), BAD);
        due("11 W", x.weight(), 5 + 7 * 999);
        x.put(2, 11);
        x.put(3, 9999);
        due("11 W with LOAD and HOOK", x.weight(), 5 + 7 * 999 + 11 + 9999);
        due("39 parts", x.count(0), 8);
    }

    private static void dials() {
        CranePads x = new CranePads();
        int[] least = {0, 0, 0, 0, 1, 0, 0, 0, 0, 0, 0, 0, 0, 0};
        int[] most = {19, 60, 999, 9999, 999, 2, 9, 2, 0, 0, 100, 100, 100, 100};
        for (int what = 0; what < 14; what++) {
            boolean none = what == 8 || what == 9;
            int was = x.told(what);
            due("5 below", x.put(what, least[what] - 1), none ? NONE : BAD);
            due("5 above", x.put(what, most[what] + 1), none ? NONE : BAD);
            due("6 nothing changed", x.told(what), was);
            due("5 what it was", x.put(what, most[what]), none ? NONE : was);
            due("6 the most", x.told(what), none ? NONE : most[what]);
            due("5 what it was", x.put(what, least[what]), none ? NONE : most[what]);
            due("6 the least", x.told(what), none ? NONE : least[what]);
        }
        due("5 none", x.put(-1, 0), NONE);
        due("5 none", x.put(14, 0), NONE);
        due("6 none", x.told(-1), NONE);
        due("6 none", x.told(14), NONE);
    }

    private static void charts() {
        CranePads x = new CranePads();
        due("9 without entries", x.read(2, 5), 0);
        due("8 first", x.entry(2, 5, 10), 1);
        due("8 second", x.entry(2, 7, 9), 2);
        due("9 between, cut", x.read(2, 6), 9);
        due("9 there", x.read(2, 5), 10);
        due("9 ahead of the first", x.read(2, 0), 10);
        due("9 the last", x.read(2, 7), 9);
        due("9 behind the last", x.read(2, 8), 0);
        due("8 anew", x.entry(2, 7, 20), 2);
        due("9 anew", x.read(2, 6), 15);
        for (int i = 0; i < 8; i++) {
            due("8 more", x.entry(2, 20 + i, 9999), 3 + i);
        }
        due("8 eleven", x.entry(2, 60, 0), FULL);
        due("8 one that is there, in a full one", x.entry(2, 27, 0), 10);
        due("8 none there, in a full one", x.entry(2, 60, -1), STATE);
        due("8 goes", x.entry(2, 20, -1), 9);
        due("8 comes", x.entry(2, 60, 0), 10);
        due("8 edges", x.entry(0, 0, 0), 1);
        due("8 no chart", x.entry(3, 61, 0), NONE);
        due("8 no chart", x.entry(-1, 0, 0), NONE);
        due("8 reach", x.entry(0, 61, 0), BAD);
        due("8 reach", x.entry(0, -1, -1), BAD);
        due("8 v", x.entry(0, 0, -2), BAD);
        due("8 v", x.entry(0, 0, 10000), BAD);
        due("9 no chart", x.read(3, 61), NONE);
        due("9 reach", x.read(0, 61), BAD);
        due("9 reach", x.read(0, -1), BAD);
        due("39 entries", x.count(3), 1);
        due("39 entries", x.count(4), 0);
        due("39 entries", x.count(5), 10);
        due("9 an entry of 0 is one", x.read(0, 0), 0);
    }

    private static void allowed() {
        CranePads x = new CranePads();
        x.entry(1, 10, 999);
        due("10 chart in use", x.allowed(0, 10), 0);
        x.put(5, 1);
        due("10 as read", x.allowed(0, 10), 999);
        x.put(6, 9);
        due("10 wind, cut", x.allowed(0, 10), 549);
        x.put(7, 1);
        due("10 grab, cut", x.allowed(0, 10), 411);
        x.put(7, 2);
        due("10 magnet", x.allowed(0, 10), 402);
        x.put(12, 33);
        due("10 quarter, cut", x.allowed(10, 10), 132);
        due("10 quarter's last", x.allowed(14, 0), 132);
        due("10 next quarter", x.allowed(15, 10), 402);
        due("10 the one ahead", x.allowed(9, 10), 402);
        x.entry(1, 10, 10);
        due("10 magnet, not below 0", x.allowed(0, 10), 0);
        due("10 none", x.allowed(20, 61), NONE);
        due("10 none", x.allowed(-1, 0), NONE);
        due("10 reach", x.allowed(0, 61), BAD);
        due("10 reach", x.allowed(0, -1), BAD);
    }

    private static void centreAndMoments() {
        CranePads x = new CranePads();
        due("12 W is 0", x.centre(0, 0), NO);
        due("13 W is 0", x.moment(0, 0), 0);
        due("13 W is 0", x.moment(0, 1), 1);
        due("14 W is 0", x.factor(0, 0), NO);
        x.part(3, -7, 2, false);
        x.part(5, 4, -9, true);
        x.put(0, 6);
        // DIRECTION 6 is (-5/13, 12/13): 4 and -9 come to (88/13, 93/13)
        fraction("12 X", x.centre(0, 0), x.centre(0, 1), 167, 104);
        fraction("12 Y", x.centre(1, 0), x.centre(1, 1), 543, 104);
        due("12 what", x.centre(2, 0), NO);
        due("12 what", x.centre(-1, 0), NO);
        due("12 part", x.centre(0, 2), NO);
        due("12 part", x.centre(0, -1), NO);
        fraction("13 edge 0", x.moment(0, 0), x.moment(0, 1), 9940, 13);
        fraction("13 edge 3", x.moment(3, 0), x.moment(3, 1), 17460, 13);
        due("13 edge", x.moment(4, 0), NO);
        due("13 edge", x.moment(-1, 0), NO);
        due("13 part", x.moment(0, 2), NO);
        due("13 part", x.moment(0, -1), NO);
        due("14 nothing tips", x.factor(3, 0), NO);
        x.put(1, 60);
        x.put(2, 1);
        // the HOOK is at (-300/13, 720/13): 1 times 20 times (10 - 720/13) about EDGE 0
        fraction("14 edge 0", x.factor(0, 0), x.factor(0, 1), 497, 590);
        due("14 edge", x.factor(4, 0), NO);
        due("14 part", x.factor(0, 2), NO);
        x.put(2, 0);
        x.put(3, 1);
        fraction("14 a LOAD like a HOOK", x.factor(0, 0), x.factor(0, 1), 497, 590);
        CranePads y = new CranePads();
        y.part(10, 0, 40, false);
        fraction("14 nothing holds", y.factor(0, 0), y.factor(0, 1), 0, 1);
        fraction("13 below 0", y.moment(0, 0), y.moment(0, 1), -6000, 1);
        y.mass(0, 3);
        y.part(4, -9, -40, false);
        fraction("12 below 0", y.centre(1, 0), y.centre(1, 1), -40, 7);
    }

    /** Only the HOOK has MASS, so the CENTRE is REACH times the vector. */
    private static void directions() {
        CranePads x = new CranePads();
        x.put(1, 1);
        x.put(2, 3);
        int[][] first = {{1, 0, 1}, {12, 5, 13}, {4, 3, 5}, {3, 4, 5}, {5, 12, 13}};
        for (int d = 0; d < 20; d++) {
            x.put(0, d);
            int[] v = first[d % 5];
            int[] ahead = {v[0], -v[1], -v[0], v[1]};
            int[] aside = {v[1], v[0], -v[1], -v[0]};
            int below = v[2];
            int q = d / 5;
            fraction("12 X of " + d, x.centre(0, 0), x.centre(0, 1), ahead[q], ahead[q] == 0 ? 1 : below);
            fraction("12 Y of " + d, x.centre(1, 0), x.centre(1, 1), aside[q], aside[q] == 0 ? 1 : below);
        }
    }

    private static void pushes() {
        CranePads x = new CranePads();
        due("15 W is 0", x.push(0, 0), NO);
        due("16 W is 0", x.lifted(), STATE);
        due("17 W is 0", x.mat(0), STATE);
        x.part(100, 10, 10, false);
        // all above PAD 0: the plane gives 75, 25, -25, 25
        due("16 the least is lifted", x.lifted(), 2);
        fraction("15 all on one", x.push(0, 0), x.push(0, 1), 100, 1);
        fraction("15 none", x.push(1, 0), x.push(1, 1), 0, 1);
        fraction("15 lifted", x.push(2, 0), x.push(2, 1), 0, 1);
        due("17 of a lifted one", x.mat(2), 1);
        due("17 50 times 4", x.mat(0), 2);
        x.put(4, 100);
        due("17 just enough", x.mat(0), 1);
        x.put(4, 1);
        due("17 just enough", x.mat(0), 10);
        due("15 pad", x.push(4, 0), NO);
        due("15 pad", x.push(-1, 0), NO);
        due("15 part", x.push(0, 2), NO);
        due("15 part", x.push(0, -1), NO);
        due("17 pad", x.mat(4), NONE);
        due("17 pad", x.mat(-1), NONE);
        x.put(3, 9999);
        x.put(1, 10);
        due("17 no side is enough", x.mat(0), NOT_SO);
        x.put(1, 15);
        due("16 it tips", x.lifted(), STATE);
        due("17 it tips", x.mat(0), STATE);
        due("17 no pad is named ahead of it", x.mat(4), NONE);
        due("15 it tips", x.push(0, 0), NO);
        CranePads y = new CranePads();
        y.part(100, 0, 0, false);
        due("16 none is lifted", y.lifted(), NOT_SO);
        y.pad(0, 20, 20, 9999);
        // the plane (500 - 5 X - 5 Y) / 19
        fraction("15 the far one", y.push(0, 0), y.push(0, 1), 300, 19);
        fraction("15 beside it", y.push(1, 0), y.push(1, 1), 500, 19);
        fraction("15 across", y.push(2, 0), y.push(2, 1), 600, 19);
        fraction("15 beside it", y.push(3, 0), y.push(3, 1), 500, 19);
    }

    private static void mats() {
        CranePads x = new CranePads();
        x.put(1, 0);
        x.put(4, 1);
        x.put(3, 9999);
        x.part(999, 0, 0, false);
        x.part(999, 0, 0, false);
        x.part(999, 0, 0, false);
        x.part(999, 0, 0, false);
        x.part(405, 0, 0, false);
        due("17 sixty, just enough", x.mat(0), 60);
        x.mass(4, 406);
        due("17 a quarter more", x.mat(0), NOT_SO);
    }

    /** PADS that are no square: what is copied for a thought or THE IMAGE is all of them. */
    private static void kite() {
        CranePads x = firm();
        x.part(19, 3, -5, true);
        x.part(19, -7, 4, false);
        due("40 taken", x.image(), 3);
        long before = x.push(1, 0);
        x.pad(0, 20, 25, 9999);
        x.pad(2, -12, -10, 9999);
        x.part(5, 4, 4, true);
        x.mass(1, 1);
        due("41 back", x.undo(), 3);
        due("41 the same PUSHES", x.push(1, 0), before);
        x.pad(0, 20, 20, 9999);
        x.list(0, 4);
        x.put(3, 321);
        due("32 laid", x.lay(0, 0), 4);
        due("31 thought of the same PADS", x.seen(0, 0, 1) >= 310 && x.seen(0, 0, 1) <= 321 ? 1 : 0, 1);
        x.put(0, 7);
        x.pad(0, 10, 12, 9999);
        int least = x.ballast(1);
        due("23 least of a TURNING one", least, 1);
        CranePads y = new CranePads();
        y.image();
        y.part(10, 0, 5, false);
        y.undo();
        y.part(10, 5, 0, true);
        y.put(0, 5);
        fraction("41 a part that comes behind it", y.centre(1, 0), y.centre(1, 1), 5, 1);
        CranePads z = firm();
        z.part(1, 40, 0, true);
        z.put(0, 5);
        z.put(3, 900);
        z.put(1, 20);
        // on the EDGE already: a counterweight would have to be behind
        due("23 none", z.ballast(1), NOT_SO);
        z.put(0, 15);
        due("23 nor there", z.ballast(1), NOT_SO);
        z.put(1, 19);
        due("23 the least", z.ballast(1), 1);
        z.put(1, 20);
        z.part(2, 0, 40, false);
        // about the EDGE at Y -10 each unit of this one has 50, and the other takes 30
        due("23 the other holds", z.ballast(2), 1);
        z.mass(1, 31);
        due("23 31 times 30 by 50, cut up", z.ballast(2), 19);
    }

    private static void why() {
        CranePads x = new CranePads();
        due("18 W is 0", x.why(), 2);
        x.part(100, 0, 0, false);
        due("18 may, with nothing allowed and nothing hung", x.why(), 0);
        x.put(2, 1);
        due("18 the HOOK counts", x.why(), 5);
        x.entry(0, 5, 1);
        due("18 just allowed", x.why(), 0);
        x.put(3, 1);
        due("18 together too much", x.why(), 5);
        x.pad(1, -10, 10, 26);
        due("18 below the LIMIT", x.why(), 5);
        x.pad(0, 10, 10, 25);
        due("18 a LIMIT", x.why(), 4);
        x.put(1, 60);
        x.put(3, 999);
        due("18 it tips", x.why(), 2);
        x.pad(1, 10, -10, 25);
        due("18 it doesn't stand", x.why(), 1);
        CranePads y = new CranePads();
        y.part(1, 10, 0, false);
        due("18 just above an edge", y.why(), 0);
        due("16 a PUSH of 0 isn't below 0", y.lifted(), NOT_SO);
        y.mass(0, 200);
        y.pad(0, 10, 10, 100);
        due("18 just the LIMIT", y.why(), 0);
        y.mass(0, 201);
        due("18 half above the LIMIT", y.why(), 4);
        y.mass(0, 999);
        y.part(1, 11, 0, false);
        due("18 just beyond an edge", y.why(), 2);
    }

    private static void most() {
        CranePads x = firm();
        due("19 at most 999", x.most(), 999);
        x.put(3, 9999);
        due("19 whatever the LOAD is", x.most(), 999);
        due("19 in thought", x.told(3), 9999);
        x.put(1, 60);
        // 900 times 10 holds, 50 tips
        due("19 until it tips", x.most(), 180);
        x.put(2, 100);
        due("19 the HOOK counts", x.most(), 80);
        x.put(2, 180);
        due("19 nothing more", x.most(), 0);
        x.put(2, 181);
        due("19 none", x.most(), NOT_SO);
        CranePads y = new CranePads();
        y.part(50, -20, 0, false);
        y.entry(0, 60, 9999);
        y.put(1, 20);
        due("19 it may not with 0", y.why(), 2);
        due("19 from 17 up to 150", y.most(), 150);
        y.pad(0, 10, 10, 80);
        // PUSH of PAD 0 is 3/4 LOAD less 12 1/2
        due("19 up to a LIMIT", y.most(), 123);
    }

    private static void whereAndFarthest() {
        CranePads x = firm();
        due("20 everywhere", x.where(0), 0xFFFFF);
        x.put(3, 900);
        // at DIRECTION 0 up to 20; at (4/5, 3/5) up to 25; at (12/13, 5/13) up to 21 2/3
        due("20 all", x.where(20), 0xFFFFF);
        due("20 not along the axes", x.where(21), 0xFFFFF & ~(1 | 1 << 5 | 1 << 10 | 1 << 15));
        int steep = 1 << 2 | 1 << 3 | 1 << 7 | 1 << 8 | 1 << 12 | 1 << 13 | 1 << 17 | 1 << 18;
        due("20 only the middle ones", x.where(25), steep);
        due("20 none", x.where(26), 0);
        due("20 bad", x.where(61), BAD);
        due("20 bad", x.where(-1), BAD);
        due("21 along an axis", x.farthest(5), 20);
        due("21 beside it", x.farthest(1), 21);
        due("21 in the middle", x.farthest(17), 25);
        due("21 none", x.farthest(20), NONE);
        due("21 none", x.farthest(-1), NONE);
        due("21 in thought", x.told(1), 5);
        x.put(13, 0);
        due("21 nowhere", x.farthest(15), NOT_SO);
        due("20 a quarter is shut", x.where(5), 0x7FFF);
        x.put(3, 0);
        x.put(13, 100);
        due("21 to the end", x.farthest(0), 60);
        x.entry(0, 0, 10);
        x.entry(0, 60, -1);
        x.put(3, 10);
        due("21 only at 0", x.farthest(0), 0);
        x.put(3, 11);
        due("21 not even there", x.farthest(0), NOT_SO);
    }

    private static void ways() {
        CranePads x = firm();
        due("22 here", x.way(0, 5), 0);
        due("22 round", x.way(19, 5), 1);
        due("22 across", x.way(10, 5), 10);
        due("22 both", x.way(18, 9), 6);
        due("22 reach back", x.way(0, 0), 5);
        x.put(3, 900);
        due("22 too far", x.way(0, 21), NOT_SO);
        due("22 just", x.way(2, 25), 22);
        x.put(0, 2);
        x.put(1, 25);
        due("22 back in and out again: by 20 alone past the axes", x.way(17, 25), 15);
        x.put(11, 0);
        due("22 a shut quarter, the long way", x.way(10, 20), 17);
        due("22 into it", x.way(5, 20), NOT_SO);
        x.put(13, 0);
        due("22 two shut quarters", x.way(10, 20), NOT_SO);
        due("22 in thought", x.told(0) * 100 + x.told(1), 225);
        x.put(0, 5);
        due("22 it may not at first", x.way(2, 20), NOT_SO);
        due("22 it may not, and is there", x.way(5, 25), NOT_SO);
        due("22 none", x.way(20, 61), NONE);
        due("22 none", x.way(-1, 0), NONE);
        due("22 bad", x.way(0, 61), BAD);
        due("22 bad", x.way(0, -1), BAD);
    }

    private static void longWays() {
        CranePads x = firm();
        x.pad(0, 30, 3, 9999);
        x.pad(1, -30, 3, 9999);
        x.pad(2, -30, -3, 9999);
        x.pad(3, 30, -3, 9999);
        x.put(3, 900);
        x.put(1, 60);
        due("22 in to 6, round, and out", x.way(10, 60), 54 + 10 + 54);
        due("22 no farther aside", x.way(5, 7), NOT_SO);
        due("22 just so far", x.way(5, 6), 54 + 5);
        CranePads y = firm();
        y.put(0, 19);
        due("22 on round", y.way(0, 5), 1);
        due("22 on round", y.way(3, 6), 5);
        y.put(3, 1);
        y.put(12, 0);
        due("22 on past 19", y.way(9, 5), 10);
    }

    private static void ballast() {
        CranePads x = firm();
        x.part(5, -10, 0, true);
        due("23 the least", x.ballast(1), 1);
        x.put(3, 900);
        x.put(1, 30);
        // 900 times 10 and 20 a unit of ballast hold, 900 times 20 tip
        due("23 until it stands", x.ballast(1), 450);
        due("23 of the other", x.ballast(0), NOT_SO);
        due("23 in thought", x.mass(1, 5), 5);
        due("23 in thought", x.weight(), 1805);
        // 798 times 10 and 20 a unit of ballast hold, 699 times 40 tip
        x.put(1, 50);
        x.put(3, 699);
        x.mass(0, 798);
        due("23 all of it", x.ballast(1), 999);
        x.put(1, 60);
        due("23 no mass will do", x.ballast(1), NOT_SO);
        due("23 none", x.ballast(2), NONE);
        due("23 none", x.ballast(-1), NONE);
    }

    private static void tape() {
        CranePads x = new CranePads();
        due("24 bad", x.feed(0), BAD);
        due("24 bad", x.feed(128), BAD);
        due("24 bad", x.feed(-1), BAD);
        due("25 empty", x.clear(), 0);
        for (int i = 1; i <= 100; i++) {
            due("24 comes", x.feed(i % 2 == 0 ? 1 : 127), i);
        }
        due("24 full", x.feed(65), FULL);
        due("24 bad is named ahead of full", x.feed(0), BAD);
        due("39 bytes", x.count(1), 100);
        due("25 all", x.clear(), 100);
        due("25 empty then", x.count(1), 0);
        due("24 anew", x.feed(65), 1);
    }

    private static void plans() {
        CranePads x = new CranePads();
        due("26 one", plan(x, "set"), 1);
        due("26 five", plan(x, "take 9999;slew 19;reach 60;set;wind 9"), 5);
        due("26 noughts ahead", plan(x, "take 0000;slew 0019;reach 060;wind 09"), 4);
        due("39 steps", x.count(2), 4);
        String[] texts = {"", ";", "set;", "set;;set", "sets", "se", "set ", "set 5", " set", "Set", "take", "take5",
            "take ", "take  5", "take x", "take ;", "take 5 ", "take 5x", "take 10000", "slew 20", "slew 20000",
            "slew 0012", "reach 61x", "reach 61", "reach 00600", "wind 10", "wind 0009;wind 00009", "wind -1", "set;take",
            "set;tak 5", "slew 5;reach 5,set", "take 5;",
            "setz", "seta", "set{", "set`", "wake 5", "fet", "takes 5", "reach", "reac 5", "winds 5", "slew 5;blew 5",
            "take /", "take :", "take 9:"};
        int[] faults = {0, 0, 4, 4, 0, 0, 3, 3, 0, 0, 4, 4, 5, 5, 5, 5, 6, 6, 9, 5, 5, -1, 6, 6, 10, 5, 19, 5, 8, 4, 14, 7,
            0, 0, 3, 3, 0, 0, 0, 5, 0, 0, 7, 5, 5, 6};
        for (int i = 0; i < texts.length; i++) {
            x.clear();
            due("26 before '" + texts[i] + "'", plan(x, "set;set;set"), 3);
            int got = plan(x, texts[i]);
            due("26 '" + texts[i] + "'", got, faults[i] < 0 ? 1 : -100 - faults[i]);
            due("26 the one ahead stays by a fault", x.count(2), faults[i] < 0 ? 1 : 3);
            due("26 the tape is empty", x.count(1), 0);
            if (i % 8 == 7) {
                x = new CranePads();
            }
        }
        StringBuilder many = new StringBuilder("set");
        for (int i = 1; i < 25; i++) {
            many.append(";set");
        }
        due("26 twenty-five", plan(x, many.toString()), 25);
        due("26 twenty-five and a ;", plan(x, many + ";"), -200);
        due("27 twenty-six moments", x.checked(0), 26);
    }

    private static void checked() {
        CranePads x = firm();
        due("27 no plan", x.checked(3), STATE);
        due("27 no what is named first", x.checked(4), NONE);
        due("27 no what", x.checked(-1), NONE);
        due("28 no plan", x.spare(), NO);
        CranePads y = firm();
        plan(y, "take 1000");
        due("28 asked first", y.spare(), 8999);
        due("29 no plan", x.done(), STATE);
        due("30 no plan", x.backward(), STATE);
        x.entry(0, 60, 0);
        x.entry(0, 0, 600);
        // ALLOWED is 600 less 10 a REACH
        plan(x, "take 500;slew 0;reach 12;reach 9;wind 1;set");
        due("27 how many", x.checked(0), 1 + 1 + 0 + 7 + 3 + 1 + 1);
        due("27 the first", x.checked(1), 1 + 6);
        due("27 its step", x.checked(2), 2);
        due("27 why", x.checked(3), 5);
        due("28 the least", x.spare(), -20);
        due("29 it may not", x.done(), STATE);
        due("29 nothing is done", x.told(3) * 100 + x.told(1), 5);
        x.put(3, 600);
        due("27 at first", x.checked(1), 0);
        due("27 at first", x.checked(2), NOT_SO);
        due("27 at first", x.checked(3), 5);
        due("28 at first", x.spare(), -50);
        x.put(3, 0);
        x.put(2, 7);
        plan(x, "take 300;reach 7;wind 5;set;slew 10");
        due("27 no fault", x.checked(1), NOT_SO);
        due("27 no fault", x.checked(2), NOT_SO);
        due("27 no fault", x.checked(3), 0);
        due("28 with the HOOK and the WIND", x.spare(), 530 * 75 / 100 - 307);
        due("29 done", x.done(), 1 + 1 + 2 + 1 + 1 + 10);
        due("29 DIRECTION", x.told(0), 10);
        due("29 REACH", x.told(1), 7);
        due("29 LOAD", x.told(3), 0);
        due("29 WIND", x.told(6), 5);
        due("29 it stays", x.count(2), 5);
        due("29 once more", x.done(), 1 + 1 + 0 + 1 + 1 + 0);
        due("30 a take", x.backward(), STATE);
        plan(x, "slew 3;set");
        due("30 a set", x.backward(), STATE);
        plan(x, "wind 3");
        due("30 a wind", x.backward(), STATE);
    }

    private static void slewing() {
        CranePads x = firm();
        plan(x, "slew 11");
        due("27 the shorter way, back", x.checked(0), 10);
        plan(x, "slew 9");
        due("27 the shorter way, on", x.checked(0), 10);
        plan(x, "slew 10");
        x.put(3, 10);
        x.put(11, 0);
        due("27 of like ones on, into the shut quarter", x.checked(1), 5);
        due("30 gone back: of like ones on, past the open ones", x.backward(), 1);
        x.put(11, 100);
        x.put(13, 0);
        due("27 of like ones on, past the open ones", x.checked(1), NOT_SO);
        due("30 gone back: on, into the shut quarter", x.backward(), 0);
        x.put(13, 100);
        x.put(12, 0);
        due("30 as it ends, too", x.backward(), 0);
        x.put(12, 100);
        x.put(3, 900);
        plan(x, "reach 20;slew 2;reach 25;slew 3;reach 20;slew 5");
        due("30 the last step ahead", x.backward(), 1);
        due("27 and forward", x.checked(3), 0);
        due("30 in thought", x.told(0) * 100 + x.told(1), 5);
        plan(x, "slew 5;reach 21;slew 6");
        due("30 not lawful", x.backward(), 0);
        plan(x, "slew 2;reach 25");
        due("30 reach first, then slew", x.backward(), 1);
        due("26 a fault", plan(x, "reach 3;reach 4;reach 5;take 3;oops"), -131);
        due("30 the plan that stayed", x.backward(), 1);
        due("30 and again", x.backward(), 1);
        x.put(1, 25);
        x.put(0, 3);
        plan(x, "reach 4;slew 5;reach 20");
        due("30 back over the axis at 4", x.backward(), 1);
        plan(x, "reach 4;slew 7;reach 25");
        due("30 in, round and out", x.backward(), 1);
        plan(x, "slew 7;reach 4");
        due("30 out at 7, then round", x.backward(), 0);
        plan(x, "reach 20;reach 25");
        due("27 out and in", x.checked(0), 11);
        due("27 in order", x.checked(3), 0);
    }

    private static void seen() {
        CranePads x = new CranePads();
        x.list(0, 6);
        due("31 all cut to 0: LOAD 1 and 2, not 0 without PUSHES", x.seen(0, 0, 0), 2);
        due("31 the least", x.seen(0, 0, 1), 1);
        x.set(0, 0, -1);
        due("31 none", x.seen(0, 0, 0), 0);
        due("31 none", x.seen(0, 0, 1), NOT_SO);
        x.put(1, 0);
        for (int k = 0; k < 4; k++) {
            x.set(0, 2 + k, 25);
        }
        due("31 100 to 103", x.seen(0, 2, 0), 4);
        due("31 the least", x.seen(0, 2, 1), 100);
        due("31 in thought", x.told(3), 0);
        x.list(1, 4);
        due("31 0 is no PUSHES, 1 to 3 are", x.seen(1, 0, 0), 3);
        due("31 1", x.seen(1, 0, 1), 1);
        x.part(100, 0, 0, false);
        due("31 from LOAD 0 on", x.seen(0, 2, 0), 4);
        due("31 from LOAD 0 on", x.seen(0, 2, 1), 0);
        for (int k = 0; k < 4; k++) {
            x.set(0, 2 + k, 274);
        }
        due("31 up to LOAD 999", x.seen(0, 2, 0), 4);
        due("31 the least of them", x.seen(0, 2, 1), 996);
        for (int k = 0; k < 4; k++) {
            x.set(0, 2 + k, 275);
        }
        due("31 no LOAD above 999", x.seen(0, 2, 0), 0);
        due("31 list", x.seen(4, 0, 0), NONE);
        due("31 list", x.seen(-1, 0, 0), NONE);
        due("31 what is named ahead of nothing", x.seen(2, 0, 2), NONE);
        due("31 what", x.seen(0, 0, -1), NONE);
        due("31 nothing", x.seen(2, -1, 0), NOTHING);
        due("31 beyond", x.seen(0, 3, 0), BEYOND);
        due("31 beyond", x.seen(0, -1, 0), BEYOND);
        due("31 beyond", x.seen(0, Integer.MAX_VALUE, 0), BEYOND);
        due("31 beyond", x.seen(0, Integer.MIN_VALUE, 0), BEYOND);
        x.list(3, 3);
        due("31 a short one", x.seen(3, 0, 0), BEYOND);
    }

    private static void lay() {
        CranePads x = new CranePads();
        x.list(0, 5);
        due("32 no pushes", x.lay(0, 0), STATE);
        due("32 no pushes is named ahead of beyond", x.lay(0, 9), STATE);
        x.part(103, 0, 0, false);
        due("32 laid", x.lay(0, 0), 4);
        for (int i = 0; i < 5; i++) {
            due("32 cut", x.get(0, i), i < 4 ? 25 : 0);
        }
        x.mass(0, 81);
        due("32 not all", x.lay(0, 3), BEYOND);
        due("32 those with a place", x.get(0, 2) * 10000 + x.get(0, 3) * 100 + x.get(0, 4), 252020);
        x.mass(0, 41);
        due("32 none below 0", x.lay(0, -1), BEYOND);
        due("32 none below 0", x.get(0, 0), 25);
        due("32 far away", x.lay(0, Integer.MAX_VALUE), BEYOND);
        due("32 far away", x.lay(0, Integer.MIN_VALUE), BEYOND);
        due("32 just behind", x.lay(0, 5), BEYOND);
        due("32 the last", x.lay(0, 4), BEYOND);
        due("32 the last", x.get(0, 4), 10);
        due("32 none", x.lay(4, 0), NONE);
        due("32 none", x.lay(-1, 0), NONE);
        due("32 nothing", x.lay(1, 0), NOTHING);
        x.list(1, 0);
        due("32 a row of 0", x.lay(1, 0), BEYOND);
        x.list(2, 30);
        due("32 the last four", x.lay(2, 26), 4);
        due("32 three", x.lay(2, 27), BEYOND);
        due("32 none", x.lay(2, 30), BEYOND);
        due("32 the last", x.get(2, 29), 10);
    }

    private static void book() {
        CranePads x = firm();
        due("34 none", x.booked(0, 0), NONE);
        due("35 empty", x.heaviest(), NOT_SO);
        for (int i = 0; i < 8; i++) {
            x.put(0, i);
            x.put(1, i + 10);
            x.put(3, 100 * i);
            due("33 how many", x.book(), i + 1);
        }
        due("35 the last", x.heaviest(), 7);
        x.put(3, 17);
        x.put(1, 700 / 17);
        due("33 the eldest goes", x.book(), 8);
        due("34 LOAD", x.booked(0, 0), 100);
        due("34 DIRECTION", x.booked(0, 1), 1);
        due("34 REACH", x.booked(0, 2), 11);
        due("34 LOAD", x.booked(7, 0), 17);
        due("35 one earlier now", x.heaviest(), 6);
        x.put(3, 700);
        x.put(1, 17);
        x.book();
        due("35 of several the eldest", x.heaviest(), 5);
        due("34 it may", x.booked(5, 3), 1);
        x.put(10, 0);
        due("34 now it may", x.booked(5, 3), 1);
        due("34 now it may not", x.booked(0, 3), 0);
        due("34 in thought", x.told(3), 700);
        x.put(10, 100);
        x.mass(0, 1);
        due("34 now it tips", x.booked(5, 3), 0);
        due("34 none", x.booked(8, 0), NONE);
        due("34 none", x.booked(-1, 0), NONE);
        due("34 what", x.booked(0, 4), NONE);
        due("34 what", x.booked(0, -1), NONE);
        CranePads y = new CranePads();
        y.put(1, 0);
        y.put(3, 9999);
        y.book();
        y.book();
        due("35 all are 0", y.heaviest(), 0);
        CranePads z = firm();
        z.put(1, 21);
        z.put(3, 900);
        z.book();
        z.put(1, 20);
        z.book();
        z.put(0, 2);
        z.put(1, 21);
        z.book();
        z.put(0, 0);
        z.put(3, 0);
        due("34 its LOAD counts", z.booked(0, 3), 0);
        due("34 its REACH counts", z.booked(1, 3), 1);
        due("34 its DIRECTION counts", z.booked(2, 3), 1);
    }

    private static void rows() {
        CranePads x = new CranePads();
        due("36 none", x.list(4, 99), NONE);
        due("36 none", x.list(-1, -1), NONE);
        due("36 bad", x.list(0, 31), BAD);
        due("36 below", x.list(0, -1), BELOW);
        due("38 nothing there", x.get(0, 0), NO);
        due("37 nothing", x.set(0, 99, 0), NOTHING);
        due("36 thirty", x.list(0, 30), 1);
        due("37 the last", x.set(0, 29, Long.MAX_VALUE), 1);
        due("38 the last", x.get(0, 29), Long.MAX_VALUE);
        due("38 all 0", x.get(0, 28), 0);
        due("37 beyond", x.set(0, 30, 1), BEYOND);
        due("37 beyond", x.set(0, -1, 1), BEYOND);
        due("38 beyond", x.get(0, 30), NO);
        due("38 beyond", x.get(0, -1), NO);
        due("36 a bad size changes nothing", x.list(0, 31), BAD);
        due("36 a bad size changes nothing", x.list(0, -1), BELOW);
        due("38 still there", x.get(0, 29), Long.MAX_VALUE);
        due("36 none long", x.list(0, 0), 1);
        due("37 none long", x.set(0, 0, 1), BEYOND);
        due("38 none long", x.get(0, 0), NO);
        due("36 anew", x.list(0, 30), 1);
        due("38 anew all 0", x.get(0, 29), 0);
        due("37 none", x.set(4, 0, 0), NONE);
        due("37 none", x.set(-1, 0, 0), NONE);
        due("38 none", x.get(4, 0), NO);
        due("38 none", x.get(-1, 0), NO);
        due("37 another is nothing", x.set(3, 0, 0), NOTHING);
        due("39 none", x.count(7), NONE);
        due("39 none", x.count(-1), NONE);
    }

    private static void image() {
        CranePads x = firm();
        due("41 none", x.undo(), STATE);
        x.put(3, 44);
        x.put(12, 55);
        due("40 parts", x.image(), 1);
        x.part(77, 3, 4, true);
        x.mass(0, 1);
        x.pad(1, 0, 30, 5);
        x.entry(0, 60, -1);
        x.entry(2, 3, 4);
        x.put(3, 1);
        x.put(12, 2);
        x.put(6, 3);
        plan(x, "set;set");
        x.book();
        x.list(2, 3);
        x.set(2, 1, 8);
        feed(x, "abc");
        for (int turn = 0; turn < 2; turn++) {
            due("41 parts", x.undo(), 1);
            due("41 mass", x.weight(), 944);
            due("41 pads", x.padOf(1, 0), -10);
            due("41 LIMIT", x.padOf(1, 2), 9999);
            due("41 entries", x.count(3), 1);
            due("41 entries", x.count(5), 0);
            due("41 reads", x.read(0, 1), 9999);
            due("41 dials", x.told(3) * 10000 + x.told(12) * 100 + x.told(6), 445500);
            due("41 the tape stays", x.count(1), 3);
            due("41 the plan stays", x.count(2), 2);
            due("41 the book stays", x.booked(0, 0), 1);
            due("41 the lists stay", x.get(2, 1), 8);
            due("41 as firm as it was", x.why(), 0);
            x.part(5, 30, 30, false);
            x.pad(0, -30, -30, 0);
        }
        due("40 a later one", x.image(), 2);
        x.pad(0, 10, 10, 9999);
        due("41 as the later one", x.undo(), 2);
        due("41 as the later one", x.why(), 1);
    }

    private static void constants() {
        due("NONE", CranePads.NONE, -1);
        due("BAD", CranePads.BAD, -2);
        due("STATE", CranePads.STATE, -3);
        due("FULL", CranePads.FULL, -4);
        due("NO", CranePads.NO, Long.MIN_VALUE);
    }

    public static void main(String[] args) {
        constants();
        aNewObject();
        pads();
        parts();
        dials();
        charts();
        allowed();
        centreAndMoments();
        directions();
        pushes();
        mats();
        kite();
        why();
        most();
        whereAndFarthest();
        ways();
        longWays();
        ballast();
        tape();
        plans();
        checked();
        slewing();
        seen();
        lay();
        book();
        rows();
        image();
        System.out.println(asked + " answers looked at, " + wrong + " not as due");
        if (wrong != 0) {
            System.exit(1);
        }
    }
}
