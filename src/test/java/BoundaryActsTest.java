import java.util.ArrayList;
import java.util.List;

/**
 * The boundaries of promises 7 to 14, and of what the document's Terms, part II, tell of cells, falls, marks and acts.
 * Each test's remark quotes the sentence that it holds; RemarksTest finds these words in the document.
 */
public final class BoundaryActsTest {
    /**
     * Cells 0 to 3 are 9 6 3 1 high, 4 to 7 are 7 5 2 0. Person 0 (soft 1) falls 0 1 2 3 7, with force 2 4 5 5: things
     * 0 and 1 break, and person 1 in 7 halves the 5.
     */
    private static final String SLOPE = "ground 4 2;row 9631;row 7520;person 0 1;person 7 0"
            + ";thing 2 9 4 10;thing 3 0 5 20;thing 5 1 3 7;net 6";
    /** Nine steps: along the upper row, and down its last column to 23. */
    private static final String STAIRS = "ground 8 3;row 98765432;row 99999991;row 99999990;person 0 0";

    public static void main(String[] args) {
        Checks.runAll(BoundaryActsTest.class);
    }

    // ---- Promises 7 to 14

    /**
     * Promise 7: "Of a cell what 0: HEIGHT, 1: the cell to which it LEADS (NONE: a FLOOR), 2: 1 if there is a NET, else 0,
     * 3: PEOPLE in it, 4: THINGS in it, both as bits, 5: END, 6: STEPS to it."
     */
    private static void cellTellsItsSeven() {
        FallSchool s = Checks.school(SLOPE);
        int[][] due = {
            {9, 1, 0, 1, 0, 7, 4}, {6, 2, 0, 0, 0, 7, 3}, {3, 3, 0, 0, 1, 7, 2}, {1, 7, 0, 0, 2, 7, 1},
            {7, 5, 0, 0, 0, 7, 3}, {5, 6, 0, 0, 4, 7, 2}, {2, 7, 1, 0, 0, 7, 1}, {0, -1, 0, 2, 0, 7, 0}};
        for (int cell = 0; cell < due.length; cell++) {
            for (int what = 0; what < 7; what++) {
                Checks.is("cell " + cell + ", " + what, s.cell(cell, what), due[cell][what]);
            }
        }
        s.fall(0, 4);
        Checks.is("what is broken stays in its cell", s.cell(2, 4), 1);
        Checks.is("both people", s.cell(7, 3), 3);
        Checks.is("none where one was", s.cell(0, 3), 0);
        FallSchool full = Checks.school("ground 2 2" + ";person 3 0".repeat(5) + ";thing 3 9 1 1".repeat(8));
        Checks.is("all five people", full.cell(3, 3), 31);
        Checks.is("all eight things", full.cell(3, 4), 255);
        full.put(7, 0);
        Checks.is("the last bit", full.cell(0, 4), 128);
    }

    /** Promise 7: "-2 without these." */
    private static void cellRefusesOthers() {
        FallSchool s = Checks.school(SLOPE);
        for (int bad : new int[] {-1, 8, 48, Checks.LEAST, Checks.MOST}) {
            for (int what = 0; what < 7; what++) {
                Checks.is("no cell " + bad, s.cell(bad, what), -2);
            }
        }
        for (int bad : new int[] {-1, 7, Checks.LEAST, Checks.MOST}) {
            Checks.is("no such what: " + bad, s.cell(0, bad), -2);
        }
        Checks.is("the last cell is one", s.cell(7, 0), 0);
    }

    /** Promise 8: "Of a PERSON what 0: cell, 1: SOFT." */
    private static void personTellsTwo() {
        FallSchool s = Checks.school(SLOPE);
        Checks.is("cell of 0", s.person(0, 0), 0);
        Checks.is("soft of 0", s.person(0, 1), 1);
        Checks.is("cell of 1", s.person(1, 0), 7);
        Checks.is("soft of 1", s.person(1, 1), 0);
        s.fall(0, 2);
        Checks.is("where they are now", s.person(0, 0), 6);
        Checks.is("soft as ever", s.person(0, 1), 1);
    }

    /** Promise 8: "NONE without these." */
    private static void personRefusesOthers() {
        FallSchool s = Checks.school(SLOPE);
        for (int bad : new int[] {-1, 2, 4, 5, Checks.LEAST, Checks.MOST}) {
            Checks.is("no person " + bad, s.person(bad, 0), -1);
            Checks.is("no such what: " + bad, s.person(0, bad), -1);
        }
        Checks.is("nobody at all", Checks.school("ground 2 2").person(0, 0), -1);
    }

    /** Promise 9: "Of a THING what 0: cell, 1: OWNER (9: the school), 2: HARD, 3: WORTH, 4: 1 if broken, else 0." */
    private static void thingTellsFive() {
        FallSchool s = Checks.school(SLOPE);
        int[][] due = {{2, 9, 4, 10, 0}, {3, 0, 5, 20, 0}, {5, 1, 3, 7, 0}};
        for (int thing = 0; thing < 3; thing++) {
            for (int what = 0; what < 5; what++) {
                Checks.is("thing " + thing + ", " + what, s.thing(thing, what), due[thing][what]);
            }
        }
        s.fall(0, 4);
        Checks.is("broken", s.thing(0, 4), 1);
        Checks.is("broken too", s.thing(1, 4), 1);
        Checks.is("whole", s.thing(2, 4), 0);
        Checks.is("broken where it lies", s.thing(1, 0), 3);
    }

    /** Promise 9: "NONE without these." */
    private static void thingRefusesOthers() {
        FallSchool s = Checks.school(SLOPE);
        for (int bad : new int[] {-1, 3, 7, 8, Checks.LEAST, Checks.MOST}) {
            for (int what = 0; what < 5; what++) {
                Checks.is("no thing " + bad, s.thing(bad, what), -1);
            }
        }
        for (int bad : new int[] {-1, 5, Checks.LEAST, Checks.MOST}) {
            Checks.is("no such what: " + bad, s.thing(0, bad), -1);
        }
    }

    /** Promise 10: "A FALL: MARK" */
    private static void fallAnswersItsMark() {
        FallSchool s = Checks.school(SLOPE);
        Checks.is("10 less for the school's thing, none for one's own", s.fall(0, 4), 90);
        Checks.is("on the floor", s.fall(0, 0), 100);
        Checks.is("a fall that never began is an act", s.count(11), 2);
    }

    /** Promise 10: "NONE, and nothing happens, without these (SIDE 0 to 4)." */
    private static void fallRefusesOthers() {
        FallSchool s = Checks.school(SLOPE);
        s.put(0, 1);
        String before = Checks.sight(s);
        for (int bad : new int[] {-1, 2, 5, Checks.LEAST, Checks.MOST}) {
            Checks.is("no person " + bad, s.fall(bad, 4), -1);
        }
        for (int bad : new int[] {-1, 5, Checks.LEAST, Checks.MOST}) {
            Checks.is("no side " + bad, s.fall(0, bad), -1);
        }
        Checks.same("nothing happens", Checks.sight(s), before);
        for (int side = 0; side <= 4; side++) {
            Checks.is("side " + side + " is one", s.fall(1, side), 100);
        }
    }

    /** Promise 11: "WALK: the cell" */
    private static void walkAnswersTheCell() {
        FallSchool s = Checks.school("ground 2 2;row 12;row 01;person 0 0");
        Checks.is("right, higher by 1", s.walk(0, 1), 1);
        Checks.is("down, lower by 1", s.walk(0, 2), 3);
        Checks.is("left, lower by 1", s.walk(0, 3), 2);
        Checks.is("up, higher by 1", s.walk(0, 0), 0);
        Checks.is("they are there", s.person(0, 0), 0);
    }

    /**
     * Promise 11: "NONE, and nothing happens, without these (SIDE 0 to 3), or that cell, or if it is too high or too low."
     */
    private static void walkRefusesOthers() {
        FallSchool s = Checks.school("ground 3 2;row 253;row 109;person 0 0;person 4 0;person 2 0");
        s.walk(0, 2);
        s.walk(0, 0);
        String before = Checks.sight(s);
        for (int bad : new int[] {-1, 3, 5, Checks.LEAST, Checks.MOST}) {
            Checks.is("no person " + bad, s.walk(bad, 2), -1);
        }
        for (int bad : new int[] {-1, 4, Checks.LEAST, Checks.MOST}) {
            Checks.is("no side " + bad, s.walk(0, bad), -1);
        }
        Checks.is("no cell above", s.walk(0, 0), -1);
        Checks.is("no cell to the left", s.walk(0, 3), -1);
        Checks.is("no cell below", s.walk(1, 2), -1);
        Checks.is("no cell to the right: the next row's first is none", s.walk(2, 1), -1);
        Checks.is("too high by 3", s.walk(0, 1), -1);
        Checks.is("too high by 9", s.walk(1, 1), -1);
        Checks.is("too high by 2", s.walk(2, 3), -1);
        Checks.is("too high by 6", s.walk(2, 2), -1);
        Checks.same("nothing happens", Checks.sight(s), before);
        FallSchool low = Checks.school("ground 2 2;row 20;row 03;person 0 0;person 3 0");
        Checks.is("too low by 2", low.walk(0, 1), -1);
        Checks.is("too low by 2 below", low.walk(0, 2), -1);
        Checks.is("too low by 3", low.walk(1, 0), -1);
        Checks.is("no act", low.count(11), 0);
    }

    /** Promise 12: "PUT: the cell where it was" */
    private static void putAnswersWhereItWas() {
        FallSchool s = Checks.school(SLOPE);
        Checks.is("to the last cell", s.put(0, 7), 2);
        Checks.is("to the first cell", s.put(0, 0), 7);
        Checks.is("back", s.put(0, 2), 0);
        Checks.is("it is there", s.thing(0, 0), 2);
        Checks.is("where another one is", s.put(0, 3), 2);
        Checks.is("both are there", s.cell(3, 4), 3);
    }

    /** Promise 12: "NONE, and nothing happens, without these (whole, another cell)." */
    private static void putRefusesOthers() {
        FallSchool s = Checks.school(SLOPE);
        s.fall(0, 4);
        String before = Checks.sight(s);
        for (int bad : new int[] {-1, 3, 8, Checks.LEAST, Checks.MOST}) {
            Checks.is("no thing " + bad, s.put(bad, 0), -1);
        }
        for (int bad : new int[] {-1, 8, 48, Checks.LEAST, Checks.MOST}) {
            Checks.is("no cell " + bad, s.put(2, bad), -1);
        }
        Checks.is("a broken one", s.put(0, 0), -1);
        Checks.is("a broken one where it is", s.put(0, 2), -1);
        Checks.is("the same cell", s.put(2, 5), -1);
        Checks.same("nothing happens", Checks.sight(s), before);
    }

    /** Promise 13: "MEND: true" */
    private static void mendAnswersTrue() {
        FallSchool s = Checks.school(SLOPE);
        s.fall(0, 4);
        Checks.is("the first", s.mend(0), true);
        Checks.is("it is whole", s.thing(0, 4), 0);
        Checks.is("the other one is broken still", s.count(9), 2);
        Checks.is("the other one", s.mend(1), true);
        Checks.is("all are whole", s.count(9), 0);
        Checks.is("it can be put", s.put(1, 0), 3);
    }

    /** Promise 13: "false, and nothing happens, without a THING that is broken." */
    private static void mendRefusesOthers() {
        FallSchool s = Checks.school(SLOPE);
        s.fall(0, 4);
        String before = Checks.sight(s);
        // A shift by 32 or -32 would be one by 0: thing 0 is broken.
        for (int bad : new int[] {-1, 3, 32, -32, 64, Checks.LEAST, Checks.MOST}) {
            Checks.is("no thing " + bad, s.mend(bad), false);
        }
        Checks.is("a whole one", s.mend(2), false);
        Checks.same("nothing happens", Checks.sight(s), before);
        s.mend(0);
        Checks.is("mended already", s.mend(0), false);
        Checks.is("two acts", s.count(11), 2);
    }

    /** Promise 14: "The last ACT is UNDONE: how many more can be" */
    private static void undoTakesTheLastActBack() {
        FallSchool s = Checks.school(SLOPE);
        s.fall(0, 4);
        s.mend(0);
        s.put(0, 1);
        s.walk(1, 3);
        s.fall(1, 4);
        Checks.is("walking is too steep there", s.count(11), 4);
        Checks.is("the fall that never began", s.undo(), 3);
        Checks.is("the put", s.undo(), 2);
        Checks.is("where it was", s.thing(0, 0), 2);
        Checks.is("the mend", s.undo(), 1);
        Checks.is("broken again", s.count(9), 3);
        Checks.is("the fall", s.undo(), 0);
        Checks.is("whole", s.count(9), 0);
        Checks.is("where they were", s.person(0, 0), 0);
    }

    /** Promise 14: "-2, and nothing happens: none can." */
    private static void undoRefusesWithoutAnAct() {
        FallSchool s = Checks.school(SLOPE);
        s.seed(5);
        s.clue(0, true);
        String before = Checks.sight(s);
        Checks.is("none can", s.undo(), -2);
        Checks.same("nothing happens", Checks.sight(s), before);
        s.put(0, 1);
        Checks.is("one could", s.undo(), 0);
        Checks.is("none can now", s.undo(), -2);
        Checks.same("nothing happens again", Checks.sight(s), before);
    }

    // ---- Terms II, cells

    /**
     * Promise 11, Terms: "SIDES 0 to 3: up (a row less), right (a column more), down (a row more), left (a column less):
     * the cell BESIDE, if there is one."
     */
    private static void cellsBesideEachCell() {
        int[][] due = {
            {-1, 1, 3, -1}, {-1, 2, 4, 0}, {-1, -1, 5, 1}, {0, 4, 6, -1}, {1, 5, 7, 3}, {2, -1, 8, 4}, {3, 7, -1, -1},
            {4, 8, -1, 6}, {5, -1, -1, 7}};
        for (int cell = 0; cell < 9; cell++) {
            for (int side = 0; side < 4; side++) {
                FallSchool s = Checks.school("ground 3 3;person " + cell + " 0");
                Checks.is("beside " + cell + " on side " + side, s.walk(0, side), due[cell][side]);
            }
        }
        FallSchool corner = Checks.school("ground 8 6;person 47 0;person 7 0;person 40 0");
        Checks.is("right of the last", corner.walk(0, 1), -1);
        Checks.is("below the last", corner.walk(0, 2), -1);
        Checks.is("right of the first row", corner.walk(1, 1), -1);
        Checks.is("left of the last row", corner.walk(2, 3), -1);
    }

    /**
     * Promise 7, Terms: "A cell LEADS to the lowest cell BESIDE it that is lower than it, of several that of the least
     * SIDE"
     */
    private static void aCellLeadsToTheLowestBeside() {
        leads("row 919;row 191;row 919", 1);
        leads("row 929;row 191;row 919", 5);
        leads("row 929;row 192;row 919", 7);
        leads("row 929;row 192;row 929", 3);
        leads("row 999;row 991;row 919", 5);
        leads("row 989;row 999;row 999", 1);
        leads("row 999;row 999;row 989", 7);
        leads("row 939;row 494;row 919", 7);
    }

    /** Of the cell in the midst of three rows. */
    private static void leads(String rows, int due) {
        Checks.is(rows, Checks.school("ground 3 3;" + rows).cell(4, 1), due);
    }

    /** Promise 7, Terms: "a cell that has none lower is a FLOOR." */
    private static void floors() {
        leads("row 999;row 999;row 999", -1);
        leads("row 898;row 999;row 898", -1);
        leads("row 999;row 909;row 999", -1);
        leads("row 050;row 555;row 050", -1);
        leads("row 060;row 656;row 060", -1);
        FallSchool s = Checks.school("ground 2 2;row 55;row 55");
        Checks.is("its own end", s.cell(2, 5), 2);
        Checks.is("in no step", s.cell(2, 6), 0);
    }

    // ---- Terms II, falls

    /** Promise 10, Terms: "A FALL of a PERSON who leans to a SIDE (or to none, 4), from where they are, FORCE 0 at first." */
    private static void fallsBeginWithoutForce() {
        FallSchool s = Checks.school("ground 3 2;row 940;row 999;person 0 0;person 2 0;thing 2 9 4 1;thing 2 9 5 1");
        Checks.is("from where they are: both break", s.would(0, 4, 2), 3);
        Checks.is("it falls", s.fall(0, 4), 98);
        Checks.is("on the floor no force is left", s.would(0, 4, 1), 0);
        FallSchool again = Checks.school("ground 4 2;row 9440;row 9999;person 0 0;thing 3 9 5 1");
        Checks.is("the first fall stops on a floor", again.fall(0, 4), 100);
        Checks.is("walk on", again.walk(0, 1), 2);
        Checks.is("the second has no force of the first", again.would(0, 4, 1), 4);
        Checks.is("hard 5 stays whole", again.would(0, 4, 2), 0);
    }

    /**
     * Promise 10, Terms: "A STEP: to the cell to which the cell LEADS (the first one: to the SIDE they lean to, if there
     * is a cell BESIDE that is lower)"
     */
    private static void onlyTheFirstStepIsLeaned() {
        // 0 leads to 1 (height 3); below it is 2 (7), which leads to 3 (1).
        FallSchool s = Checks.school("ground 2 3;row 93;row 71;row 65;person 0 0");
        Checks.is("down: 2, 3", s.would(0, 2, 3), 3);
        Checks.is("in two steps", s.would(0, 2, 4), 2);
        Checks.is("its force", s.would(0, 2, 1), 8);
        Checks.is("up is no cell: 1, 3", s.would(0, 0, 4), 2);
        // 4 is 5 high, and lies in the midst: up 9 is higher, right 5 is level, down 4 is lower, left 1 is lowest.
        FallSchool midst = Checks.school("ground 3 3;row 999;row 155;row 949;person 4 0;person 6 0");
        Checks.is("leaning to a higher cell", midst.would(0, 0, 3), 3);
        Checks.is("leaning to a level cell", midst.would(0, 1, 3), 3);
        Checks.is("leaning to a lower cell", midst.would(0, 2, 3), 7);
        Checks.is("leaning to the lowest cell", midst.would(0, 3, 3), 3);
        Checks.is("leaning to none", midst.would(0, 4, 3), 3);
        Checks.is("no cell to the left: not the row above's last", midst.would(1, 3, 3), 3);
    }

    /** Promise 10, Terms: "DROP: by how much that is lower; FORCE becomes FORCE and DROP less SOFT (0 at least)." */
    private static void forceIsNeverBelowZero() {
        hurt("ground 2 2;row 90;row 99;person 0 0", 9);
        hurt("ground 2 2;row 90;row 99;person 0 8", 1);
        hurt("ground 2 2;row 90;row 99;person 0 9", 0);
        hurt("ground 2 2;row 80;row 99;person 0 9", 0);
        // Drops of 1, 1 and 5 less 3 each: 0, 0, 2, and not -2 - 2 + 2.
        hurt("ground 4 2;row 7650;row 9999;person 0 3", 2);
        // 2, 4, 5 less 0: all add up.
        hurt("ground 4 2;row 9750;row 9999;person 0 0", 9);
        hurt("ground 4 2;row 9750;row 9999;person 0 1", 6);
    }

    private static void hurt(String ground, int due) {
        Checks.is(ground, Checks.school(ground).would(0, 4, 1), due);
    }

    /** Promise 10, Terms: "(1) Is there a NET, FORCE is 0, nothing breaks, and the FALL ends." */
    private static void netsEndFalls() {
        FallSchool s = Checks.school("ground 4 2;row 9630;row 9999;person 0 0;thing 1 9 1 5;thing 2 9 1 6;thing 3 9 1 7;net 2");
        int[] due = {95, 0, 1, 2, 2};
        for (int what = 0; what < 5; what++) {
            Checks.is("into the net, " + what, s.would(0, 4, what), due[what]);
        }
        Checks.is("the fall", s.fall(0, 4), 95);
        Checks.is("they are in the net", s.person(0, 0), 2);
        Checks.is("and fall out of it by the next fall", s.fall(0, 4), 93);
        Checks.is("with the force of that step", s.person(0, 0), 3);
        FallSchool law = Checks.school("ground 2 2;row 90;row 99;person 0 0;person 1 0;thing 1 9 1 5;net 1", "break 1=1;mark 100");
        Checks.is("no law breaks in a net", law.would(0, 4, 2), 0);
        Checks.is("the best mark", law.would(0, 4, 0), 100);
        Checks.is("no hurt", law.would(0, 4, 1), 0);
    }

    /** Promise 10, Terms: "(2) THINGS that are whole in that cell, by numbers, break by the LAW" */
    private static void wholeThingsBreakByNumbers() {
        String text = "ground 3 2;row 950;row 999;person 0 0;person 0 0;thing 2 9 1 1;thing 1 9 1 2;thing 1 9 1 4;thing 0 9 1 8";
        FallSchool s = Checks.school(text, "break broken<2");
        Checks.is("1 and 2 lie in the first cell, and come ahead of 0", s.fall(0, 4), 94);
        Checks.is("the cell where it begins is not asked", s.count(9), 6);
        Checks.is("what is broken can't break again: 0 is left", s.fall(1, 4), 99);
        Checks.is("all but the one at the start", s.count(9), 7);
        FallSchool first = Checks.school(text, "break broken=0");
        Checks.is("the least number first", first.would(0, 4, 2), 2);
    }

    /** Promise 10, Terms: "by the RULE IN FORCE, if some break TEST holds" */
    private static void someBreakTestHolds() {
        String text = "ground 2 2;row 90;row 99;person 0 0;thing 1 9 1 1;thing 1 9 30 1;thing 1 9 30 1";
        FallSchool s = Checks.school(text, "break thing=1;break thing=2");
        Checks.is("the first or the second; force 9 against hard 1 is not asked", s.would(0, 4, 2), 6);
        s.force(Checks.rule(s, "break 1=2"));
        Checks.is("none holds", s.would(0, 4, 2), 0);
        s.force(Checks.rule(s, "mark 1;break thing=2 and 1=1"));
        Checks.is("a mark ahead of it", s.would(0, 4, 2), 4);
    }

    /** Promise 10, Terms: "without a RULE, or one without a break CLAUSE, if FORCE is HARD or more." */
    private static void forceIsHardOrMore() {
        String text = "ground 2 2;row 90;row 99;person 0 0;thing 1 9 8 1;thing 1 9 9 1;thing 1 9 10 1";
        FallSchool s = Checks.school(text);
        Checks.is("9 against 8, 9 and 10", s.would(0, 4, 2), 3);
        s.force(Checks.rule(s, "mark 0"));
        Checks.is("by a rule without a break", s.would(0, 4, 2), 3);
        Checks.is("hard 1 against force 0", Checks.school("ground 2 2;row 10;row 11;person 0 1;thing 1 9 1 1").would(0, 4, 2), 0);
        Checks.is("hard 1 against force 1", Checks.school("ground 2 2;row 20;row 22;person 0 1;thing 1 9 1 1").would(0, 4, 2), 1);
    }

    /** Promise 10, Terms: "(3) Others in that cell: FORCE is half (downwards) of it." */
    private static void othersHalveTheForce() {
        hurt("ground 2 2;row 90;row 99;person 0 0;person 1 0", 4);
        hurt("ground 2 2;row 80;row 99;person 0 0;person 1 0", 4);
        hurt("ground 2 2;row 10;row 99;person 0 0;person 1 0", 0);
        hurt("ground 2 2;row 90;row 99;person 0 9;person 1 0", 0);
        hurt("ground 2 2;row 90;row 99;person 0 0" + ";person 1 0".repeat(4), 4);
        hurt("ground 2 2;row 90;row 99;person 0 0;person 0 0;person 3 0", 9);
        // 4 is halved to 2; the next step adds 5.
        hurt("ground 3 2;row 950;row 999;person 0 0;person 1 0", 7);
        FallSchool s = Checks.school("ground 2 2;row 90;row 99;person 0 0;person 1 0;thing 1 9 9 1");
        Checks.is("things break ahead of it", s.would(0, 4, 2), 1);
    }

    /** Promise 10, Terms: "On a FLOOR the FALL ends (also if it never began)." */
    private static void fallsEndOnFloors() {
        FallSchool s = Checks.school("ground 2 2;row 55;row 59;person 0 0;person 0 0;thing 0 9 1 1", "break 1=1");
        int[] due = {100, 0, 0, 0, 0};
        for (int side = 0; side <= 4; side++) {
            for (int what = 0; what < 5; what++) {
                Checks.is("side " + side + ", " + what, s.would(0, side, what), due[what]);
            }
        }
        Checks.is("it never began", s.fall(0, 4), 100);
        Checks.is("nothing broke", s.count(9), 0);
        Checks.is("but it can be undone", s.undo(), 0);
        FallSchool far = Checks.school(STAIRS);
        Checks.is("nine steps", far.would(0, 4, 4), 9);
        Checks.is("to the floor", far.would(0, 4, 3), 23);
    }

    /** Promise 15, Terms: "HURT: FORCE at the end." */
    private static void hurtIsTheForceAtTheEnd() {
        FallSchool s = Checks.school(SLOPE);
        Checks.is("5, halved by person 1", s.would(0, 4, 1), 2);
        Checks.is("in the net", s.would(0, 2, 1), 0);
        Checks.is("never begun", s.would(1, 4, 1), 0);
        Checks.is("all nine", Checks.school(STAIRS).would(0, 4, 1), 9);
    }

    // ---- Terms II, marks

    /**
     * Promise 10, Terms: "MARK: 100 less, for each THING that broke in it: by the RULE IN FORCE the SUM of its first mark
     * CLAUSE without a TEST, or whose TEST holds"
     */
    private static void theFirstMarkClauseThatHolds() {
        String text = "ground 2 2;row 90;row 99;person 0 0;thing 1 9 1 50;thing 1 0 1 50;thing 1 9 30 50";
        FallSchool s = Checks.school(text, "mark 5 if thing=1;mark 7;mark 9 if thing=0;mark 11");
        Checks.is("7 for thing 0, 5 for thing 1, none for what stays whole", s.would(0, 4, 0), 88);
        s.force(Checks.rule(s, "mark 3;mark 60 if 1=1"));
        Checks.is("the first without a test", s.would(0, 4, 0), 94);
        s.force(Checks.rule(s, "break 1=2;mark 50"));
        Checks.is("nothing broke", s.would(0, 4, 0), 100);
        s.force(Checks.rule(s, "mark 20;break thing=2"));
        Checks.is("a mark ahead of a break", s.would(0, 4, 0), 80);
    }

    /** Promise 10, Terms: "(WORDS as when it broke; 0 without; held to 0 to 100)" */
    private static void marksAreHeld() {
        String text = "ground 3 2;row 950;row 999;person 0 0;person 2 0;thing 1 9 1 50;thing 2 9 1 50";
        FallSchool s = Checks.school(text, "mark force");
        Checks.is("4, and 9 that is not halved yet", s.would(0, 4, 0), 87);
        s.force(Checks.rule(s, "mark 10*broken+step"));
        Checks.is("1 and 12", s.would(0, 4, 0), 87);
        s.force(Checks.rule(s, "mark 30 if thing=1"));
        Checks.is("0 without", s.would(0, 4, 0), 70);
        s.force(Checks.rule(s, "mark 0-50 if thing=0;mark 50"));
        Checks.is("-50 is 0", s.would(0, 4, 0), 50);
        s.force(Checks.rule(s, "mark 0-65536*65536-9 if thing=0;mark 50"));
        Checks.is("far below 0", s.would(0, 4, 0), 50);
        s.force(Checks.rule(s, "mark 65536*65536"));
        Checks.is("far above 100, also where 32 bits have it as 0", s.would(0, 4, 0), 0);
        FallSchool one = Checks.school("ground 2 2;row 90;row 99;person 0 0;thing 1 9 1 50", "mark 99");
        Checks.is("99", one.would(0, 4, 0), 1);
        one.force(Checks.rule(one, "mark 100"));
        Checks.is("100", one.would(0, 4, 0), 0);
        one.force(Checks.rule(one, "mark 101"));
        Checks.is("101 is 100", one.would(0, 4, 0), 0);
        one.force(Checks.rule(one, "mark 65536*65536*32768*65536-1"));
        Checks.is("the greatest sum there is", one.would(0, 4, 0), 0);
    }

    /** Promise 10, Terms: "without a RULE, or one without a mark CLAUSE, its WORTH, if it is not their own; 0 at least." */
    private static void marksAreZeroAtLeast() {
        String text = "ground 2 2;row 90;row 99;person 0 0;person 0 0;thing 1 9 1 60;thing 1 1 1 39;thing 1 0 1 60";
        FallSchool s = Checks.school(text);
        Checks.is("60 and 39", s.would(0, 4, 0), 1);
        Checks.is("60 and 60 are more than 100", s.would(1, 4, 0), 0);
        s.force(Checks.rule(s, "break 1=1"));
        Checks.is("by a rule without a mark", s.would(0, 4, 0), 1);
        s.force(Checks.rule(s, "mark 60"));
        Checks.is("three times 60", s.would(0, 4, 0), 0);
        s.force(Checks.rule(s, "mark 34"));
        Checks.is("three times 34", s.would(0, 4, 0), 0);
        s.force(Checks.rule(s, "mark 33"));
        Checks.is("three times 33: one's own too", s.would(0, 4, 0), 1);
    }

    // ---- Terms II, acts

    /** Promise 10, Terms: "ACTS: a FALL (they are in the cell where it ends then; THINGS that broke are broken)" */
    private static void fallsAreActs() {
        FallSchool s = Checks.school(SLOPE);
        s.fall(0, 4);
        Checks.is("where it ends", s.person(0, 0), 7);
        Checks.is("broken", s.count(9), 3);
        Checks.is("the other person stays", s.person(1, 0), 7);
        Checks.is("one act", s.count(11), 1);
    }

    /** Promise 11, Terms: "WALK (to the cell BESIDE on a SIDE, if that is lower or higher by 1 at most)" */
    private static void walksGoHigherOrLowerByOne() {
        int[] due = {-1, -1, 1, 1, 1, -1, -1};
        for (int height = 1; height <= 7; height++) {
            FallSchool s = Checks.school("ground 2 2;row 4" + height + ";person 0 0");
            Checks.is("from 4 to " + height, s.walk(0, 1), due[height - 1]);
            Checks.is("an act, or none", s.count(11), due[height - 1] == 1 ? 1 : 0);
        }
    }

    /** Promise 12, Terms: "PUT a THING that is whole in another cell; MEND a THING that is broken." */
    private static void putsAndMendsAreActs() {
        FallSchool s = Checks.school(SLOPE);
        s.put(2, 4);
        Checks.is("an act", s.count(11), 1);
        s.fall(0, 4);
        s.mend(1);
        Checks.is("an act too", s.count(11), 3);
        Checks.is("whole where it lay", s.thing(1, 0), 3);
        Checks.is("a thing that was put is undone to where it was told", s.undo() + s.undo() + s.undo(), 3);
        Checks.is("there", s.thing(2, 0), 5);
    }

    /** Promise 14, Terms: "The last 20 ACTS can be UNDONE, the last first." */
    private static void twentyActsCanBeUndone() {
        for (int acts : new int[] {19, 20, 21, 25, 45}) {
            FallSchool s = Checks.school("ground 8 6;thing 0 9 1 1");
            for (int act = 1; act <= acts; act++) {
                s.put(0, act);
            }
            int can = Math.min(acts, 20);
            Checks.is("so many of " + acts, s.count(11), can);
            for (int i = 1; i <= can; i++) {
                Checks.is("undo " + i, s.undo(), can - i);
                Checks.is("where it was", s.thing(0, 0), acts - i);
            }
            Checks.is("no more", s.undo(), -2);
            Checks.is("where it was left", s.thing(0, 0), acts - can);
            Checks.is("a new act", s.put(0, 47), acts - can);
            Checks.is("can be undone", s.undo(), 0);
        }
    }

    /** Promise 14, Terms: "The last 20 ACTS can be UNDONE, the last first." */
    private static void actsOfAllKindsCanBeUndone() {
        FallSchool s = Checks.school("ground 3 2;row 210;row 333" + ";person 0 0".repeat(5) + ";thing 2 9 1 5;thing 1 9 1 6");
        List<String> before = new ArrayList<>();
        for (int i = 0; before.size() < 23; i++) {
            String places = places(s);
            boolean happens = switch (i % 4) {
                case 0 -> s.fall(i / 4 % 5, 4) >= 0;
                case 1 -> s.mend(i / 8 % 2);
                case 2 -> s.put(i / 4 % 2, i / 3 % 6) >= 0;
                default -> s.walk(i / 4 % 5, 3) >= 0;
            };
            if (happens) {
                before.add(places);
            }
        }
        for (int i = 0; i < 20; i++) {
            Checks.is("undo", s.undo(), 19 - i);
            Checks.same("as ahead of it", places(s), before.get(22 - i));
        }
        Checks.is("the 21st can't be", s.undo(), -2);
    }

    /** Promise 14, Terms: "The last 20 ACTS can be UNDONE, the last first." */
    private static void whatWasBrokenAheadOfEachAct() {
        // A fall breaks the thing, a walk leads back up, and it is mended: of each act what was broken ahead of it.
        FallSchool s = Checks.school("ground 2 2;row 10;row 99;person 0 0;thing 1 9 1 1");
        int[] brokenAhead = {0, 1, 1};
        int[] cellAhead = {0, 1, 0};
        for (int act = 0; act < 33; act++) {
            boolean happens = switch (act % 3) {
                case 0 -> s.fall(0, 4) == 99;
                case 1 -> s.walk(0, 3) == 0;
                default -> s.mend(0);
            };
            Checks.is("act " + act, happens, true);
        }
        for (int act = 32; act > 12; act--) {
            Checks.is("undo of act " + act, s.undo(), act - 13);
            Checks.is("broken ahead of act " + act, s.count(9), brokenAhead[act % 3]);
            Checks.is("where they were ahead of act " + act, s.person(0, 0), cellAhead[act % 3]);
        }
        Checks.is("no more", s.undo(), -2);
    }

    /** Of five people and two things, with few calls. */
    private static String places(FallSchool s) {
        return s.person(0, 0) + " " + s.person(3, 0) + " " + s.person(4, 0) + ", " + s.thing(0, 0) + " " + s.thing(1, 0)
                + ", " + s.count(9);
    }
}
