/** Promises 24 to 30, and what ==== 2 says of PLANS: every sentence that names a boundary. */
public final class PlanBoundsTest {
    private static final Due due = new Due();

    // ---- promises 24 and 25

    private static void feedTakesLeastAndGreatest() {
        CranePads x = new CranePads();
        due.is("promise 24: byte 1", x.feed(1), 1);
        due.is("promise 24: byte 127", x.feed(127), 2);
        int[] bad = {0, -1, 128, 255, Due.LEAST_INT, Due.GREATEST_INT};
        for (int letter : bad) {
            due.is("promise 24: byte " + letter, x.feed(letter), Due.BAD);
        }
        due.is("promise 24: what is refused isn't there", x.count(1), 2);
    }

    private static void everyByteIsTaken() {
        CranePads x = new CranePads();
        for (int letter = 1; letter <= 127; letter++) {
            if (letter == 101) {
                due.is("promise 25: a hundred bytes", x.clear(), 100);
            }
            due.is("promise 24: byte " + letter, x.feed(letter), letter <= 100 ? letter : letter - 100);
        }
    }

    private static void theTapeIsFull() {
        CranePads x = new CranePads();
        for (int i = 1; i <= 99; i++) {
            x.feed('a');
        }
        due.is("promise 24: the hundredth", x.feed('a'), 100);
        due.is("promise 24: FULL", x.feed('a'), Due.FULL);
        due.is("promise 24: a bad byte is named ahead of FULL", x.feed(0), Due.BAD);
        due.is("promise 24: a bad byte is named ahead of FULL", x.feed(128), Due.BAD);
        due.is("promise 39: a hundred bytes", x.count(1), 100);
        due.is("promise 25: it had a hundred", x.clear(), 100);
        due.is("promise 25: it is empty then", x.count(1), 0);
        due.is("promise 25: it had none", x.clear(), 0);
        due.is("promise 24: it isn't full any more", x.feed('s'), 1);
        x.feed('e');
        x.feed('t');
        due.is("promise 26: what was cleared isn't read", x.plan(), 1);
    }

    private static void theHundredthByteIsRead() {
        CranePads x = new CranePads();
        String nine = Due.times(9, "take 1000;");
        due.is("promise 24: all of it", Due.feed(x, nine + "reach 0060"), 100);
        due.is("promise 26: a hundred bytes, ten STEPS", x.plan(), 10);
        due.is("promise 26: THE TAPE is empty then", x.count(1), 0);
        due.is("promise 27: ten STEPS, the last of them 55 on", x.checked(0), 1 + 9 + 55);
        due.is("promise 26: a fault at the last byte", Due.plan(x, nine + "reach 006x"), -100 - 99);
        due.is("promise 26: a hundred bytes that end too early", Due.plan(x, nine + "take 1000;"), -100 - 100);
        due.is("promise 26: THE TAPE is empty then", x.count(1), 0);
        due.is("promise 26: the one ahead stays", x.count(2), 10);
    }

    private static void theMostSteps() {
        CranePads x = new CranePads();
        due.is("promise 26: 25 STEPS in 99 bytes", Due.plan(x, Due.times(24, "set;") + "set"), 25);
        due.is("promise 39: 25 STEPS", x.count(2), 25);
        due.is("promise 27: 26 MOMENTS", x.checked(0), 26);
        due.is("promise 26: one step, then", Due.plan(x, "set"), 1);
        due.is("promise 39: 1 STEP", x.count(2), 1);
        due.is("promise 27: 2 MOMENTS", x.checked(0), 2);
    }

    // ---- promise 26, FAULTS

    /** A PLAN of two STEPS is there, and stays. */
    private static void fault(String why, String text, int place) {
        CranePads x = new CranePads();
        due.is("promise 26: two STEPS", Due.plan(x, "slew 3;reach 6"), 2);
        due.is("promise 26: " + why + ": '" + text + "'", Due.plan(x, text), -100 - place);
        due.is("promise 26: the one ahead stays: '" + text + "'", x.count(2), 2);
        due.is("promise 26: THE TAPE is empty: '" + text + "'", x.count(1), 0);
        due.is("promise 27: the one ahead stays: '" + text + "'", x.checked(0), 1 + 3 + 1);
    }

    private static void right(String why, String text, int steps) {
        CranePads x = new CranePads();
        due.is("promise 26: " + why + ": '" + text + "'", Due.plan(x, text), steps);
        due.is("promise 39: " + why + ": '" + text + "'", x.count(2), steps);
    }

    private static void wordsThatAreNoStep() {
        fault("an empty text", "", 0);
        fault("an empty word at first", ";set", 0);
        fault("an empty word at first, a blank", " set", 0);
        fault("an empty word between", "set;;set", 4);
        fault("an empty word at the end", "set;", 4);
        fault("an empty word, a figure", "5", 0);
        fault("a word that is no STEP", "lift 5", 0);
        fault("a word that is no STEP, later", "set;wind 3;lift 5", 11);
        fault("another first letter", "wake 5", 0);
        fault("another first letter", "flew 5", 0);
        fault("another first letter", "peach 5", 0);
        fault("another first letter", "get", 0);
        fault("another first letter", "bind 5", 0);
        fault("another last letter", "tako 5", 0);
        fault("another last letter", "sled 5", 0);
        fault("another last letter", "react 5", 0);
        fault("another last letter", "sea", 0);
        fault("another last letter", "wine 5", 0);
        fault("a part of a word", "tak 5", 0);
        fault("a part of a word, at the end", "tak", 0);
        fault("a part of a word, later", "set;se", 4);
        fault("one letter more", "takes 5", 0);
        fault("one letter more", "sets", 0);
        fault("two words in one", "setset", 0);
        fault("a great letter", "Take 5", 0);
        fault("a great letter within", "tAke 5", 0);
        fault("letters a and z are letters", "seta", 0);
        fault("letters a and z are letters", "setz", 0);
        fault("the byte ahead of a is none", "set`", 3);
        fault("the byte behind z is none", "set{", 3);
        fault("a great letter behind", "setA", 3);
        fault("a word is looked at ahead of its number", "slow 20", 0);
    }

    private static void bytesThatGoOnWithNothing() {
        fault("no number", "take", 4);
        fault("no number behind the blank", "take ", 5);
        fault("no blank", "take5", 4);
        fault("no blank", "take;set", 4);
        fault("two blanks", "take  5", 5);
        fault("no figure", "take x", 5);
        fault("no figure", "take ;set", 5);
        fault("a sign", "take -5", 5);
        fault("the byte ahead of 0", "take /", 5);
        fault("the byte behind 9", "take :", 5);
        fault("the byte ahead of 0, behind a figure", "take 1/", 6);
        fault("the byte behind 9, behind a figure", "take 1:", 6);
        fault("a blank behind a number", "take 5 ;set", 6);
        fault("a blank at the end", "take 5 ", 6);
        fault("a letter behind a number", "take 5x", 6);
        fault("a blank behind set", "set ", 3);
        fault("a number behind set", "set 5", 3);
        fault("a blank behind a ;", "set; set", 4);
        fault("byte 1", "" + (char) 1, 0);
        fault("byte 127 behind a STEP", "set" + (char) 127, 3);
        fault("no number, later", "set;take", 8);
        fault("too early behind a ;", "take 5;", 7);
    }

    private static void numbersAndTheirFigures() {
        right("one figure", "take 0", 1);
        right("four figures", "take 9999", 1);
        right("noughts ahead", "take 0000;slew 0000;reach 0000;wind 0000", 4);
        right("the greatest", "take 9999;slew 19;reach 60;wind 9", 4);
        right("the greatest in four figures", "slew 0019;reach 0060;wind 0009", 3);
        fault("a fifth figure", "take 10000", 9);
        fault("a fifth figure, a nought ahead", "take 01000;x", 9);
        fault("a fifth figure of a slew", "slew 00019", 9);
        fault("a fifth figure of a reach", "reach 00060", 10);
        fault("a fifth figure of a wind", "wind 00009", 9);
        fault("slew 20", "slew 20", 5);
        fault("slew 9999", "slew 9999", 5);
        fault("reach 61", "reach 61", 6);
        fault("wind 10", "wind 10", 5);
        fault("later", "set;slew 20", 9);
        fault("four figures are looked at ahead of the byte behind", "slew 20000", 5);
        fault("four figures are looked at ahead of the byte behind", "reach 0061x", 6);
        fault("figures are looked at ahead of the byte behind", "wind 10x", 5);
        fault("figures are looked at ahead of what comes later", "slew 20;lift", 5);
        fault("what comes ahead is met first", "lift;slew 20", 0);
    }

    private static void aPlanGoesByTheNext() {
        CranePads x = new CranePads();
        due.is("promise 26: a fault, and none ahead", Due.plan(x, "lift"), -100);
        due.is("promise 39: no STEPS", x.count(2), 0);
        due.is("promise 27: no PLAN", x.checked(0), Due.STATE);
        due.is("promise 26: three STEPS", Due.plan(x, "set;set;set"), 3);
        due.is("promise 26: one STEP", Due.plan(x, "slew 7"), 1);
        due.is("promise 27: the one ahead is gone", x.checked(0), 8);
        due.is("promise 26: an empty TAPE is a fault", x.plan(), -100);
        due.is("promise 39: the one ahead stays", x.count(2), 1);
    }

    // ---- promise 27

    private static int moments(CranePads x, String text) {
        due.is("promise 26: '" + text + "'", Due.plan(x, text) > 0 ? 1 : 0, 1);
        return x.checked(0);
    }

    private static void momentsOfEachStep() {
        CranePads x = Due.firm();
        due.is("promise 27: a take", moments(x, "take 5"), 2);
        due.is("promise 27: a take of what hangs already", moments(x, "take 0"), 2);
        due.is("promise 27: a set", moments(x, "set"), 2);
        due.is("promise 27: a wind", moments(x, "wind 9"), 2);
        due.is("promise 27: a wind that blows already", moments(x, "wind 0"), 2);
        due.is("promise 27: a slew to where it is", moments(x, "slew 0"), 1);
        due.is("promise 27: a reach to where it is", moments(x, "reach 5"), 1);
        due.is("promise 27: a reach one on", moments(x, "reach 6"), 2);
        due.is("promise 27: a reach one back", moments(x, "reach 4"), 2);
        due.is("promise 27: a reach to 0", moments(x, "reach 0"), 6);
        due.is("promise 27: a reach to 60", moments(x, "reach 60"), 56);
        x.put(1, 0);
        due.is("promise 27: a reach from 0 to 60", moments(x, "reach 60"), 61);
        due.is("promise 27: there and back", moments(x, "reach 60;reach 0"), 121);
        String far = Due.times(5, "reach 60;reach 0;") + "reach 60";
        due.is("promise 27: as long as can be", moments(x, far), 1 + 11 * 60);
    }

    private static void slewsGoTheShorterWayRound() {
        for (int to = 0; to < 20; to++) {
            CranePads x = Due.firm();
            due.is("promise 27: slew 0 to " + to, moments(x, "slew " + to), 1 + Math.min(to, 20 - to));
            x.put(0, 19);
            int on = (to + 1) % 20;
            due.is("promise 27: slew 19 to " + to, x.checked(0), 1 + Math.min(on, 20 - on));
        }
    }

    /** The LOAD is unlawful at DIRECTIONS 5 to 9: the first MOMENT there tells which way was gone. */
    private static void ofLikeOnesOn() {
        for (int from = 0; from < 20; from++) {
            int to = (from + 10) % 20;
            CranePads x = Due.firm();
            x.put(0, from);
            x.put(3, 1);
            x.put(11, 0);
            Due.plan(x, "slew " + to);
            int first = Due.NOT_SO;
            for (int n = 0; n <= 10 && first < 0; n++) {
                int at = (from + n) % 20;
                first = at >= 5 && at <= 9 ? n : first;
            }
            due.is("promise 27: ten on from " + from, x.checked(1), first);
        }
        CranePads y = Due.firm();
        y.put(3, 1);
        y.put(13, 0);
        Due.plan(y, "slew 11");
        due.is("promise 27: eleven on is nine back, into QUARTER 3", y.checked(1), 1);
        Due.plan(y, "slew 9");
        due.is("promise 27: nine on", y.checked(1), Due.NOT_SO);
    }

    private static void checkedWhereItMayInAll() {
        CranePads x = Due.firm();
        Due.plan(x, "take 5;slew 1;set");
        due.is("promise 27: what 0", x.checked(0), 4);
        due.is("promise 27: none in which it may not", x.checked(1), Due.NOT_SO);
        due.is("promise 27: no STEP", x.checked(2), Due.NOT_SO);
        due.is("promise 27: no WHY", x.checked(3), 0);
    }

    private static void checkedWhereItMayNot() {
        CranePads x = Due.firm();
        x.entry(0, 60, 100);
        Due.plan(x, "take 101;set");
        due.is("promise 27: the first STEP's MOMENT", x.checked(1), 1);
        due.is("promise 27: STEP 0", x.checked(2), 0);
        due.is("promise 27: ALLOWED", x.checked(3), 5);
        Due.plan(x, "set;slew 2;take 101");
        due.is("promise 27: the last MOMENT", x.checked(1), 4);
        due.is("promise 27: the last STEP", x.checked(2), 2);
        Due.plan(x, "take 101;take 102;reach 60");
        due.is("promise 27: the first of several", x.checked(1), 1);
        due.is("promise 27: all MOMENTS are counted all the same", x.checked(0), 58);
        x.put(3, 101);
        due.is("promise 27: as it is at first", x.checked(1), 0);
        due.is("promise 27: as it is at first, no STEP", x.checked(2), Due.NOT_SO);
        due.is("promise 27: as it is at first, WHY", x.checked(3), 5);
        x.pad(0, 0, 0, 9999);
        due.is("promise 27: it doesn't STAND", x.checked(3), 1);
        CranePads y = Due.firm();
        y.put(3, 900);
        Due.plan(y, "slew 0;reach 20;reach 21");
        due.is("promise 27: the first that TIPS", y.checked(1), 16);
        due.is("promise 27: its STEP, one that had no MOMENT counts", y.checked(2), 2);
        due.is("promise 27: TIPS", y.checked(3), 2);
        y.pad(0, 10, 10, 899);
        // at REACH 20 half of 1800 is on PAD 0, at 19 only 877 1/2
        due.is("promise 27: the first with a LIMIT", y.checked(1), 15);
        due.is("promise 27: its STEP", y.checked(2), 1);
        due.is("promise 27: a LIMIT", y.checked(3), 4);
    }

    private static void checkedRefuses() {
        CranePads none = new CranePads();
        CranePads some = Due.firm();
        Due.plan(some, "set");
        int[] bad = {-1, 4, Due.LEAST_INT, Due.GREATEST_INT};
        for (int what : bad) {
            due.is("promise 27: what " + what, some.checked(what), Due.NONE);
            due.is("promise 27: what " + what + " is named ahead of no PLAN", none.checked(what), Due.NONE);
        }
        for (int what = 0; what < 4; what++) {
            due.is("promise 27: no PLAN, what " + what, none.checked(what), Due.STATE);
        }
    }

    // ---- promise 28

    private static void theLeastSpare() {
        CranePads x = Due.firm();
        due.is("promise 28: no PLAN", x.spare(), Due.NO);
        x.entry(0, 60, 100);
        x.put(2, 10);
        Due.plan(x, "take 90;set");
        due.is("promise 28: just 0", x.spare(), 0);
        Due.plan(x, "take 91;set");
        due.is("promise 28: one below 0", x.spare(), -1);
        Due.plan(x, "set");
        due.is("promise 28: as it is", x.spare(), 90);
        x.put(3, 40);
        due.is("promise 28: the first MOMENT counts", x.spare(), 50);
        Due.plan(x, "take 50");
        due.is("promise 28: the last MOMENT counts", x.spare(), 40);
        Due.plan(x, "wind 9;wind 0");
        due.is("promise 28: WIND counts", x.spare(), 5);
        Due.plan(x, "slew 9;slew 0");
        x.put(11, 20);
        due.is("promise 28: a QUARTER on the way counts", x.spare(), -30);
        Due.plan(x, "take 9999");
        x.put(2, 999);
        x.entry(0, 60, 0);
        due.is("promise 28: the least of all", x.spare(), -10998);
        CranePads y = Due.firm();
        Due.plan(y, "set");
        due.is("promise 28: the greatest of all", y.spare(), 9999);
        y.pad(0, 0, 0, 0);
        due.is("promise 28: it needn't STAND", y.spare(), 9999);
    }

    // ---- promise 29

    private static void stateIs(String what, CranePads x, int direction, int reach, int load, int wind) {
        due.is("promise 29: DIRECTION, " + what, x.told(0), direction);
        due.is("promise 29: REACH, " + what, x.told(1), reach);
        due.is("promise 29: LOAD, " + what, x.told(3), load);
        due.is("promise 29: WIND, " + what, x.told(6), wind);
    }

    private static void doneOrNot() {
        CranePads x = Due.firm();
        due.is("promise 29: no PLAN", x.done(), Due.STATE);
        x.entry(0, 60, 100);
        Due.plan(x, "slew 3;take 100;reach 4;wind 0");
        due.is("promise 29: all MOMENTS, just ALLOWED", x.done(), 1 + 3 + 1 + 1 + 1);
        stateIs("done", x, 3, 4, 100, 0);
        due.is("promise 29: it stays the PLAN", x.count(2), 4);
        due.is("promise 29: done again, from there", x.done(), 1 + 0 + 1 + 0 + 1);
        Due.plan(x, "slew 4;reach 5;take 101;set");
        due.is("promise 29: one in the middle may not", x.done(), Due.STATE);
        stateIs("nothing is done", x, 3, 4, 100, 0);
        Due.plan(x, "slew 4;reach 5;wind 1");
        due.is("promise 29: the last may not", x.done(), Due.STATE);
        stateIs("nothing is done", x, 3, 4, 100, 0);
        x.put(3, 101);
        Due.plan(x, "set;slew 4");
        due.is("promise 29: the first may not", x.done(), Due.STATE);
        stateIs("nothing is done", x, 3, 4, 101, 0);
        due.is("promise 29: refused, it stays the PLAN", x.count(2), 2);
        x.put(3, 100);
        due.is("promise 29: now it may", x.done(), 3);
        stateIs("done", x, 4, 4, 0, 0);
    }

    private static void doneRoundAndToTheEnds() {
        CranePads x = Due.firm();
        Due.plan(x, "slew 19;reach 60;wind 9;take 1");
        due.is("promise 29: round to 19", x.done(), 1 + 1 + 55 + 1 + 1);
        stateIs("round to 19", x, 19, 60, 1, 9);
        Due.plan(x, "slew 0;reach 0;wind 0;set");
        due.is("promise 29: round to 0", x.done(), 1 + 1 + 60 + 1 + 1);
        stateIs("round to 0", x, 0, 0, 0, 0);
    }

    // ---- promise 30

    private static void backwardRefuses() {
        CranePads x = Due.firm();
        due.is("promise 30: no PLAN", x.backward(), Due.STATE);
        String[] texts = {"take 0", "set", "wind 0", "take 5;slew 1;reach 6", "slew 1;set;reach 6", "slew 1;reach 6;wind 1"};
        for (String text : texts) {
            Due.plan(x, text);
            due.is("promise 30: '" + text + "'", x.backward(), Due.STATE);
        }
        Due.plan(x, "slew 0");
        due.is("promise 30: a slew to where it is", x.backward(), 1);
        Due.plan(x, "reach 5");
        due.is("promise 30: a reach to where it is", x.backward(), 1);
    }

    private static void backwardTheLastStepAhead() {
        CranePads x = Due.firm();
        x.put(3, 900);
        x.put(0, 2);
        // it MAY up to REACH 20 at DIRECTION 5, up to 25 at DIRECTIONS 2, 3, 7, 8
        Due.plan(x, "reach 25;slew 3");
        due.is("promise 30: forward it may", x.checked(1), Due.NOT_SO);
        due.is("promise 30: backward too", x.backward(), 1);
        Due.plan(x, "slew 5;reach 21");
        due.is("promise 30: as it ends, it may not", x.backward(), 0);
        Due.plan(x, "reach 25;slew 7;reach 20");
        due.is("promise 30: between, it may not", x.backward(), 0);
        Due.plan(x, "reach 20;slew 7;reach 25");
        due.is("promise 30: in again on the way back", x.backward(), 1);
        x.put(1, 26);
        Due.plan(x, "reach 25");
        due.is("promise 30: to what there was ahead, and it may not there", x.backward(), 0);
        x.put(1, 25);
        Due.plan(x, "reach 24;slew 2");
        due.is("promise 30: a STEP without MOMENTS", x.backward(), 1);
        due.is("promise 30: in thought", x.told(0) * 100 + x.told(1), 225);
        x.put(0, 3);
        Due.plan(x, "reach 4;slew 7");
        due.is("promise 30: round first, out then", x.backward(), 1);
        Due.plan(x, "slew 7;reach 4");
        due.is("promise 30: out first, round then", x.backward(), 0);
    }

    private static void backwardOfThePlanThatIs() {
        CranePads x = Due.firm();
        Due.plan(x, "slew 1;set;take 1");
        due.is("promise 30: a longer one ahead", Due.plan(x, "slew 1"), 1);
        due.is("promise 30: what the one ahead held doesn't count", x.backward(), 1);
        Due.plan(x, "reach 3;slew 4;take");
        due.is("promise 30: what a FAULT held doesn't count", x.backward(), 1);
        x.put(3, 1);
        x.put(10, 0);
        due.is("promise 30: it may not", x.backward(), 0);
        Due.plan(x, "reach 3;");
        due.is("promise 30: it may not still", x.backward(), 0);
        due.is("promise 27: the PLAN is as it was", x.checked(0), 2);
        x.put(10, 100);
        x.put(11, 0);
        Due.plan(x, "slew 5");
        due.is("promise 30: as it ends it may not", x.backward(), 0);
        Due.plan(x, "lift");
        due.is("promise 30: as it ends it may not, a FAULT without STEPS behind it", x.backward(), 0);
        x.put(11, 100);
        x.put(10, 0);
        due.is("promise 26: 14 moves", Due.plan(x, Due.times(13, "slew 1;") + "slew 2"), 14);
        x.put(3, 0);
        due.is("promise 30: 14 moves", x.backward(), 1);
        x.put(3, 1);
        due.is("promise 30: 14 moves, none of them lawful", x.backward(), 0);
    }

    /** A slew back over ten goes on, as each slew does: over the other half. */
    private static void backwardOfLikeOnesOn() {
        CranePads x = Due.firm();
        x.put(3, 1);
        Due.plan(x, "slew 10");
        x.put(11, 0);
        due.is("promise 30: QUARTER 1 is shut, back by 11 to 19", x.backward(), 1);
        x.put(11, 100);
        x.put(13, 0);
        due.is("promise 30: QUARTER 3 is shut, back by 11 to 19", x.backward(), 0);
        Due.plan(x, "slew 9");
        due.is("promise 30: nine back by 8 to 0", x.backward(), 1);
        Due.plan(x, "slew 11");
        due.is("promise 30: nine on by 12 to 0, round", x.backward(), 0);
    }

    public static void main(String[] args) {
        feedTakesLeastAndGreatest();
        everyByteIsTaken();
        theTapeIsFull();
        theHundredthByteIsRead();
        theMostSteps();
        wordsThatAreNoStep();
        bytesThatGoOnWithNothing();
        numbersAndTheirFigures();
        aPlanGoesByTheNext();
        momentsOfEachStep();
        slewsGoTheShorterWayRound();
        ofLikeOnesOn();
        checkedWhereItMayInAll();
        checkedWhereItMayNot();
        checkedRefuses();
        theLeastSpare();
        doneOrNot();
        doneRoundAndToTheEnds();
        backwardRefuses();
        backwardTheLastStepAhead();
        backwardOfThePlanThatIs();
        backwardOfLikeOnesOn();
        due.end();
    }
}
