/**
 * The boundaries of promises 15 to 31, and of what the document's Terms, part III, tell of what is asked. Each test's
 * remark quotes the sentence that it holds; RemarksTest finds these words in the document.
 */
public final class BoundaryQuestionsTest {
    /**
     * Cells 0 to 3 are 9 6 3 1 high, 4 to 7 are 7 5 2 0. Person 0 (soft 1) falls 0 1 2 3 7, with force 2 4 5 5: things
     * 0 and 1 break, and person 1 in 7 halves the 5; leaning down they come to the net in 6.
     */
    private static final String SLOPE = "ground 4 2;row 9631;row 7520;person 0 1;person 7 0"
            + ";thing 2 9 4 10;thing 3 0 5 20;thing 5 1 3 7;net 6";
    /** Cells 0 and 3 lead to 1, 9 below them; 1 and 2 are floors. */
    private static final String PIT = "ground 2 2;row 90;row 99";
    /** Nine steps: along the upper row, and down its last column to 23. */
    private static final String STAIRS = "ground 8 3;row 98765432;row 99999991;row 99999990;person 0 0";

    public static void main(String[] args) {
        Checks.runAll(BoundaryQuestionsTest.class);
    }

    /** Promise 15, Terms: "(By what is asked nothing changes; THINGS as they are now.)" */
    private static void askingChangesNothing() {
        FallSchool s = Checks.school(SLOPE + ";lesson 1;lesson 2;after 0 1", "break force>=hard;mark 1");
        s.seed(9);
        s.clue(0, true);
        s.fall(0, 4);
        s.mend(0);
        s.walk(0, 0);
        String before = Checks.sight(s);
        for (int what = -2; what < 7; what++) {
            s.cell(0, what);
            s.person(0, what);
            s.thing(0, what);
            s.would(0, what, 0);
            s.would(0, 4, what);
            s.way(0, what);
            s.from(0, what);
            s.shard(0, what);
            s.trays(3, what);
            s.game(0, what);
            s.chance(0, 7, what);
            s.order(what);
            s.lesson(what);
            s.terms(20, 40, what);
            s.count(what);
        }
        s.lean(0);
        s.insure(0, 0);
        Checks.same("all is as it was", Checks.sight(s), before);
        FallSchool now = Checks.school(SLOPE);
        Checks.is("things 0 and 1 break", now.would(0, 4, 2), 3);
        now.fall(0, 4);
        now.mend(1);
        now.undo();
        now.undo();
        now.put(0, 6);
        Checks.is("things as they are now", now.would(0, 4, 2), 2);
    }

    /** Promise 7, Terms: "END of a cell: the FLOOR to which one comes by what LEADS (NETS not asked); how many STEPS." */
    private static void endsOfCells() {
        FallSchool s = Checks.school(STAIRS + ";net 1;net 7;net 22;net 23");
        Checks.is("nine steps down", s.cell(0, 6), 9);
        Checks.is("past the nets", s.cell(0, 5), 23);
        Checks.is("from a net", s.cell(7, 6), 2);
        Checks.is("a floor's own end", s.cell(23, 5), 23);
        Checks.is("in no step", s.cell(23, 6), 0);
        Checks.is("a high floor", Checks.school("ground 2 2;row 99;row 99").cell(3, 5), 3);
    }

    // ---- Promises 15 and 16

    /** Promise 15: "WOULD what 0: MARK, 1: HURT, 2: THINGS, as bits, 3: the cell, 4: STEPS." */
    private static void wouldTellsFive() {
        FallSchool s = Checks.school(SLOPE);
        int[] straight = {90, 2, 3, 7, 4};
        int[] down = {100, 0, 0, 6, 3};
        int[] floor = {100, 0, 0, 7, 0};
        for (int what = 0; what < 5; what++) {
            Checks.is("to none, " + what, s.would(0, 4, what), straight[what]);
            Checks.is("up, where no cell is, " + what, s.would(0, 0, what), straight[what]);
            Checks.is("down, " + what, s.would(0, 2, what), down[what]);
            Checks.is("on a floor, " + what, s.would(1, 3, what), floor[what]);
        }
        FallSchool full = Checks.school(PIT + ";person 0 0" + ";thing 1 9 1 1".repeat(8));
        Checks.is("all eight bits", full.would(0, 4, 2), 255);
    }

    /** Promise 15: "NONE without these (SIDE 0 to 4)." */
    private static void wouldRefusesOthers() {
        FallSchool s = Checks.school(SLOPE);
        for (int bad : new int[] {-1, 5, Checks.LEAST, Checks.MOST}) {
            Checks.is("no side " + bad, s.would(0, bad, 0), -1);
            Checks.is("no such what: " + bad, s.would(0, 4, bad), -1);
        }
        for (int bad : new int[] {-1, 2, 5, Checks.LEAST, Checks.MOST}) {
            Checks.is("no person " + bad, s.would(bad, 4, 0), -1);
        }
    }

    /** Promise 15, Terms: "WOULD: what came of a FALL: MARK, HURT, THINGS that would break, the cell at its end, STEPS." */
    private static void wouldIsWhatCameOfAFall() {
        for (int side = 0; side <= 4; side++) {
            FallSchool s = Checks.school(SLOPE, "break force+step>6;mark step*10");
            int mark = s.would(0, side, 0);
            int broke = s.would(0, side, 2);
            int end = s.would(0, side, 3);
            Checks.is("nothing is broken by asking", s.count(9), 0);
            Checks.is("the fall's mark", s.fall(0, side), mark);
            Checks.is("what it broke", s.count(9), broke);
            Checks.is("where it ends", s.person(0, 0), end);
            Checks.is("a thing that is broken would not break", s.would(0, side, 2), 0);
        }
    }

    /** Promise 16: "LEAN; NONE without that PERSON." */
    private static void leanRefusesNobody() {
        FallSchool s = Checks.school(SLOPE);
        Checks.is("into the net", s.lean(0), 2);
        Checks.is("on a floor all are alike", s.lean(1), 0);
        for (int bad : new int[] {-1, 2, 5, Checks.LEAST, Checks.MOST}) {
            Checks.is("no person " + bad, s.lean(bad), -1);
        }
    }

    /**
     * Promise 16, Terms: "LEAN: the SIDE (0 to 4) with the best MARK, of several the one with the least HURT, of these
     * the least."
     */
    private static void leanOfSeveral() {
        String midst = "ground 3 3;row 929;row 394;row 959;person 4 0";
        Checks.is("no thing: the least hurt is by the side that is least low", Checks.school(midst).lean(0), 2);
        Checks.is("a mark of 99 is worse than more hurt", Checks.school(midst + ";thing 7 9 1 1").lean(0), 1);
        Checks.is("two marks of 99", Checks.school(midst + ";thing 7 9 1 1;thing 5 9 1 1").lean(0), 3);
        Checks.is("all of 99: the least hurt again",
                Checks.school(midst + ";thing 1 9 1 1;thing 3 9 1 1;thing 5 9 1 1;thing 7 9 1 1").lean(0), 2);
        Checks.is("one's own costs nothing", Checks.school(midst + ";thing 7 0 1 60").lean(0), 2);
        Checks.is("of equal ones the least side", Checks.school("ground 3 3;row 999;row 494;row 949;person 4 0").lean(0), 0);
        Checks.is("right, down and left alike, up is lowest",
                Checks.school("ground 3 3;row 909;row 494;row 949;person 4 0").lean(0), 1);
    }

    // ---- Promise 17

    /**
     * Promise 17: "WAY what NONE: the least WORTH, -2: STEPS, 0 and on: the SIDE of that STEP (-2: there are not so
     * many)."
     */
    private static void wayTellsWorthStepsAndSides() {
        FallSchool s = Checks.school(SLOPE);
        int[] due = {3, 0, 1, 2, 1, -2, -2};
        for (int what = -2; what < 5; what++) {
            Checks.is("way " + what, s.way(0, what), due[what + 2]);
        }
        Checks.is("far too many", s.way(0, Checks.MOST), -2);
        Checks.is("on a floor no worth", s.way(1, -1), 0);
        Checks.is("on a floor no step", s.way(1, -2), 0);
        Checks.is("on a floor no side", s.way(1, 0), -2);
        FallSchool far = Checks.school(STAIRS);
        Checks.is("nine steps", far.way(0, -2), 9);
        for (int step = 0; step < 9; step++) {
            Checks.is("step " + step, far.way(0, step), step < 7 ? 1 : 2);
        }
        Checks.is("no tenth", far.way(0, 9), -2);
    }

    /** Promise 17: "-3 without these." */
    private static void wayRefusesOthers() {
        FallSchool s = Checks.school(SLOPE);
        for (int bad : new int[] {-1, 2, 5, Checks.LEAST, Checks.MOST}) {
            Checks.is("no person " + bad, s.way(bad, -1), -3);
            Checks.is("no person's side: " + bad, s.way(bad, 0), -3);
        }
        for (int bad : new int[] {-3, -4, Checks.LEAST}) {
            Checks.is("no such what: " + bad, s.way(0, bad), -3);
        }
    }

    /**
     * Promise 17, Terms: "WAY of a PERSON: down from where they are, at each STEP to any lower cell BESIDE, till a FLOOR
     * or a NET"
     */
    private static void waysEndOnFloorsAndNets() {
        FallSchool s = Checks.school("ground 4 2;row 9510;row 9999;person 0 0;thing 2 9 1 50;thing 3 9 1 5");
        Checks.is("down to the floor", s.way(0, -1), 55);
        Checks.is("in three steps", s.way(0, -2), 3);
        FallSchool net = Checks.school("ground 4 2;row 9510;row 9999;person 0 0;thing 2 9 1 50;thing 3 9 1 5;net 2");
        Checks.is("till the net, in which nothing breaks", net.way(0, -1), 0);
        Checks.is("in two steps", net.way(0, -2), 2);
        Checks.is("a fall into the net", net.would(0, 4, 3), 2);
        Checks.is("is no part of the way", net.way(0, -2), 2);
        FallSchool level = Checks.school("ground 2 2;row 55;row 50;person 0 0;person 1 0");
        Checks.is("a level cell is not lower", level.way(0, -2), 0);
        Checks.is("down", level.way(1, 0), 2);
        // By what leads one comes from 0 to 1 and the thing; each step may go to any lower cell.
        FallSchool any = Checks.school("ground 2 2;row 90;row 87;person 0 0;thing 1 9 1 9;net 3");
        Checks.is("not by what leads", any.way(0, -1), 0);
        Checks.is("down", any.way(0, 0), 2);
        Checks.is("right", any.way(0, 1), 1);
    }

    /**
     * Promise 17, Terms: "the least WORTH together of THINGS not their own that break (FORCE, NETS, people and the LAW as
     * in a FALL; the WORD broken by how many broke on that WAY)"
     */
    private static void waysBreakByTheLaw() {
        // Two ways from 0 (9) to 5 (0): by 1 and 2, or by 3 and 4, and those that go over between them.
        String text = "ground 3 2;row 974;row 860;person 0 0";
        FallSchool s = Checks.school(text + ";thing 1 9 1 3;thing 3 9 1 4;thing 4 0 1 60;thing 2 9 1 60");
        Checks.is("3 by 1 and 4: one's own is free", s.way(0, -1), 3);
        Checks.is("right", s.way(0, 0), 1);
        Checks.is("down", s.way(0, 1), 2);
        Checks.is("right, to the floor", s.way(0, 2), 1);
        s.force(Checks.rule(s, "break broken=0"));
        Checks.is("only the first breaks on each way", s.way(0, -1), 3);
        s.force(Checks.rule(s, "break thing=1 or broken=1"));
        Checks.is("what broke on another way doesn't count", s.way(0, -1), 0);
        Checks.is("right, where nothing breaks", s.way(0, 0), 1);
        FallSchool crowd = Checks.school(text + ";person 1 0;person 3 0;thing 5 9 9 7");
        Checks.is("each way is halved by somebody", crowd.way(0, -1), 0);
        FallSchool hard = Checks.school(text + ";thing 5 9 9 7");
        Checks.is("force 9 is hard 9", hard.way(0, -1), 7);
        Checks.is("hard 10 stays whole", Checks.school(text + ";thing 5 9 10 7").way(0, -1), 0);
        // To the right one falls by 9, down by 1: each way has its own force.
        FallSchool own = Checks.school("ground 2 2;row 90;row 89;person 0 0;thing 1 9 1 10;thing 2 9 2 3");
        Checks.is("force 1 against hard 2", own.way(0, -1), 0);
        Checks.is("down", own.way(0, 0), 2);
    }

    /** Promise 17, Terms: "of several the fewest STEPS, of these the first (as a row of SIDES)." */
    private static void waysOfSeveral() {
        FallSchool s = Checks.school("ground 3 2;row 950;row 876;person 0 0");
        Checks.is("right, right: two steps", s.way(0, -2), 2);
        Checks.is("right", s.way(0, 0), 1);
        // The longer way comes first as a row of sides: right, down, down against down, down.
        FallSchool longer = Checks.school("ground 2 3;row 98;row 57;row 06;person 0 0;net 5;net 4");
        Checks.is("down, down to the net", longer.way(0, -2), 2);
        Checks.is("its first side", longer.way(0, 0), 2);
        FallSchool first = Checks.school("ground 2 2;row 98;row 80;person 0 0");
        Checks.is("right ahead of down", first.way(0, 0), 1);
        Checks.is("then down", first.way(0, 1), 2);
        FallSchool up = Checks.school("ground 3 3;row 909;row 090;row 909;person 4 0");
        Checks.is("up ahead of all", up.way(0, 0), 0);
        FallSchool left = Checks.school("ground 3 3;row 909;row 090;row 909;person 4 0;thing 1 9 1 1;thing 5 9 1 1;thing 7 9 1 1");
        Checks.is("left, where nothing breaks", left.way(0, 0), 3);
        FallSchool worth = Checks.school("ground 3 2;row 950;row 876;person 0 0;thing 1 9 1 1");
        Checks.is("less worth is worth more steps", worth.way(0, -2), 4);
        Checks.is("nothing breaks", worth.way(0, -1), 0);
    }

    // ---- Promises 18 to 20

    /** Promise 18: "A CLUE (thing NONE: there are none then, 0): how many" */
    private static void cluesAreCounted() {
        FallSchool s = Checks.school(SLOPE);
        Checks.is("none of none", s.clue(-1, true), 0);
        Checks.is("one", s.clue(0, true), 1);
        Checks.is("the same again", s.clue(0, true), 2);
        Checks.is("the last thing", s.clue(2, false), 3);
        Checks.is("that it did not", s.clue(0, false), 4);
        Checks.is("so many", s.count(10), 4);
        Checks.is("none", s.clue(-1, false), 0);
        Checks.is("none are there", s.count(10), 0);
        Checks.is("none tells anything", s.from(0, 0), 40);
        Checks.is("also without a ground", new FallSchool().clue(-1, false), 0);
    }

    /** Promise 18: "-2, and nothing happens, without that THING, or if there are 8." */
    private static void clueRefusesOthers() {
        FallSchool s = Checks.school(SLOPE);
        s.clue(0, true);
        String before = Checks.sight(s);
        for (int bad : new int[] {-2, 3, 8, Checks.LEAST, Checks.MOST}) {
            Checks.is("no thing " + bad, s.clue(bad, true), -2);
        }
        Checks.same("nothing happens", Checks.sight(s), before);
        for (int i = 2; i <= 8; i++) {
            Checks.is("clue " + i, s.clue(0, true), i);
        }
        before = Checks.sight(s);
        Checks.is("a ninth", s.clue(0, true), -2);
        Checks.is("a ninth that would tell more", s.clue(1, false), -2);
        Checks.same("nothing happens either", Checks.sight(s), before);
        Checks.is("none", s.clue(-1, true), 0);
        Checks.is("one again", s.clue(0, true), 1);
    }

    /** Promise 18, Terms: "CLUES 0 to 7, told: a THING broke, or did not." */
    private static void cluesTellWhatBroke() {
        FallSchool s = Checks.school(PIT + ";person 2 0;thing 1 9 9 1;thing 1 9 10 1");
        s.clue(0, true);
        Checks.is("it breaks from 0 and 3", s.from(0, 0), 10);
        s.clue(1, false);
        Checks.is("the other one never does", s.from(0, 0), 10);
        s.clue(0, false);
        Checks.is("both broke and did not: from nowhere", s.from(0, 0), 0);
        s.clue(-1, true);
        s.clue(0, false);
        Checks.is("it does not from 1 and 2", s.from(0, 0), 10);
        s.clue(1, false);
        Checks.is("none of both", s.from(0, 0), 10);
        s.clue(1, true);
        s.clue(0, true);
        Checks.is("what never breaks", s.from(0, 0), 0);
        s.clue(-1, true);
        s.clue(1, true);
        s.clue(0, true);
        Checks.is("a clue ahead of another holds too", s.from(0, 0), 0);
        FallSchool all = Checks.school(PIT + ";person 2 0" + ";thing 1 9 9 1".repeat(8));
        for (int thing = 0; thing < 8; thing++) {
            Checks.is("clue of thing " + thing, all.clue(thing, true), thing + 1);
        }
        Checks.is("all eight at once", all.from(0, 0), 10);
    }

    /** Promise 19: "FROM what 0: how many, 1: the cell, 2: the SIDE of the first (-2: there is none)." */
    private static void fromTellsThree() {
        FallSchool s = Checks.school(SLOPE);
        Checks.is("without clues all", s.from(0, 0), 40);
        Checks.is("the first cell", s.from(0, 1), 0);
        Checks.is("the first side", s.from(0, 2), 0);
        s.clue(0, false);
        Checks.is("all but from 0 to none, up, right or left", s.from(0, 0), 36);
        Checks.is("the first cell", s.from(0, 1), 0);
        Checks.is("leaning down", s.from(0, 2), 2);
        s.clue(0, true);
        Checks.is("none", s.from(0, 0), 0);
        Checks.is("no cell", s.from(0, 1), -2);
        Checks.is("no side", s.from(0, 2), -2);
    }

    /** Promise 19: "NONE without these." */
    private static void fromRefusesOthers() {
        FallSchool s = Checks.school(SLOPE);
        for (int bad : new int[] {-1, 3, Checks.LEAST, Checks.MOST}) {
            Checks.is("no such what: " + bad, s.from(0, bad), -1);
        }
        for (int bad : new int[] {-1, 2, 5, Checks.LEAST, Checks.MOST}) {
            Checks.is("no person " + bad, s.from(bad, 0), -1);
        }
    }

    /**
     * Promise 19, Terms: "FROM for a PERSON: cells and SIDES (0 to 4) from which a FALL of theirs, all THINGS whole where
     * they are now, all others where they are, breaks just so, as far as CLUES tell: how many; the first (by cells, then
     * SIDES)."
     */
    private static void fromAllCellsAndSides() {
        FallSchool s = Checks.school(PIT + ";person 0 0;person 0 0;thing 1 9 9 1;thing 2 9 1 1");
        s.clue(0, true);
        s.fall(0, 4);
        Checks.is("broken now, but taken as whole", s.from(0, 0), 10);
        Checks.is("so it is for the other one", s.from(1, 0), 10);
        s.clue(-1, true);
        s.put(1, 1);
        s.clue(1, true);
        Checks.is("where it is now", s.from(0, 0), 10);
        FallSchool self = Checks.school(PIT + ";person 1 0;thing 1 9 1 1", "break people=0");
        self.clue(0, true);
        Checks.is("who falls is no other, wherever they are", self.from(0, 0), 10);
        FallSchool last = Checks.school(PIT + ";person 0 0".repeat(4) + ";person 1 0;thing 1 9 1 1", "break people=0");
        last.clue(0, true);
        Checks.is("nor is the last person", last.from(4, 0), 10);
        FallSchool other = Checks.school(PIT + ";person 1 0;thing 1 9 1 1;person 0 0", "break people=0");
        other.clue(0, true);
        Checks.is("for the other one there is somebody", other.from(1, 0), 0);
        Checks.is("the greatest ground", Checks.school("ground 8 6;person 0 0").from(0, 0), 240);
        FallSchool low = Checks.school("ground 2 2;row 99;row 19;person 0 0;thing 2 9 1 1");
        low.clue(0, true);
        Checks.is("from 0 and 3", low.from(0, 0), 10);
        Checks.is("by cells first", low.from(0, 1), 0);
        low.put(0, 1);
        Checks.is("nothing falls to 1", low.from(0, 1), -2);
    }

    /** Promise 20: "SHARD what 0: the THING, 1: how many; -2: there is none to fall from, or no THING." */
    private static void shardTellsTwo() {
        FallSchool s = Checks.school(PIT + ";person 2 0;thing 1 9 30 1;thing 1 9 9 1");
        Checks.is("thing 1 parts 20 into 10 and 10", s.shard(0, 0), 1);
        Checks.is("10", s.shard(0, 1), 10);
        s.clue(1, true);
        s.clue(1, false);
        Checks.is("none to fall from", s.shard(0, 0), -2);
        Checks.is("none to fall from either", s.shard(0, 1), -2);
        FallSchool bare = Checks.school("ground 2 2;person 0 0");
        Checks.is("no thing", bare.shard(0, 0), -2);
        Checks.is("no thing either", bare.shard(0, 1), -2);
    }

    /** Promise 20: "NONE without these." */
    private static void shardRefusesOthers() {
        FallSchool s = Checks.school(SLOPE);
        for (int bad : new int[] {-1, 2, Checks.LEAST, Checks.MOST}) {
            Checks.is("no such what: " + bad, s.shard(0, bad), -1);
            Checks.is("no person " + bad, s.shard(bad, 0), -1);
        }
        Checks.is("no such what, and no thing either", Checks.school("ground 2 2;person 0 0").shard(0, 2), -1);
    }

    /**
     * Promise 20, Terms: "SHARD: the THING for which these part best (it breaks, or not): the greater part is fewest; of
     * several the least; how many that is."
     */
    private static void shardPartsBest() {
        FallSchool s = Checks.school(SLOPE);
        Checks.is("things 0 and 1 part 4 and 36, thing 2 none and 40", s.shard(0, 0), 0);
        Checks.is("the greater part", s.shard(0, 1), 36);
        s.clue(0, true);
        Checks.is("of four all break 0 and 1, none 2: the least", s.shard(0, 0), 0);
        Checks.is("all four", s.shard(0, 1), 4);
        // Thing 7 alone parts: the last one can be the best.
        FallSchool last = Checks.school(PIT + ";person 2 0" + ";thing 2 9 1 1".repeat(7) + ";thing 1 9 1 1");
        Checks.is("the last thing", last.shard(0, 0), 7);
        Checks.is("ten", last.shard(0, 1), 10);
        // Of 20: thing 0 breaks in 15 (a greater part of 15), thing 1 in 5 (also 15).
        FallSchool even = Checks.school("ground 2 2;row 98;row 80;person 0 0;thing 3 9 1 1;thing 3 9 9 1");
        Checks.is("as great for both: the least", even.shard(0, 0), 0);
        Checks.is("fifteen", even.shard(0, 1), 15);
    }

    // ---- Promises 21 to 24

    /**
     * Promise 21: "TRAYS n what 0: how many sets, 1 to 3: the cells of the first one (-2: there is none, or so many it has
     * not)."
     */
    private static void traysTellSetsAndCells() {
        FallSchool s = Checks.school(SLOPE);
        int[][] due = {{8, 0, -2, -2}, {12, 0, 4, -2}, {0, -2, -2, -2}};
        for (int n = 1; n <= 3; n++) {
            for (int what = 0; what <= 3; what++) {
                Checks.is("trays " + n + ", " + what, s.trays(n, what), due[n - 1][what]);
            }
        }
        FallSchool flat = Checks.school("ground 8 6");
        Checks.is("48 over 3", flat.trays(3, 0), 17296);
        Checks.is("48 over 2", flat.trays(2, 0), 1128);
        Checks.is("48", flat.trays(1, 0), 48);
        for (int what = 1; what <= 3; what++) {
            Checks.is("the first set", flat.trays(3, what), what - 1);
        }
    }

    /** Promise 21: "NONE without these, or a GROUND." */
    private static void traysRefuseOthers() {
        FallSchool s = Checks.school(SLOPE);
        for (int bad : new int[] {-1, 0, 4, Checks.LEAST, Checks.MOST}) {
            Checks.is("not so many: " + bad, s.trays(bad, 0), -1);
        }
        for (int bad : new int[] {-1, 4, Checks.LEAST, Checks.MOST}) {
            Checks.is("no such what: " + bad, s.trays(1, bad), -1);
        }
        for (int n = 1; n <= 3; n++) {
            Checks.is("no ground", new FallSchool().trays(n, 0), -1);
        }
    }

    /**
     * Promise 21, Terms: "TRAYS n (1 to 3): sets of so many cells, of which none lies on the FALL (by what LEADS, NETS not
     * asked) from another one: how many; the first (as a rising row)."
     */
    private static void traysLieOnNoFallFromAnother() {
        // 0 and 3 lead to 1; 2 is a floor: 0 2, 0 3, 1 2, 2 3; 0 2 3.
        for (String nets : new String[] {"", ";net 1", ";net 0;net 1;net 2;net 3"}) {
            FallSchool s = Checks.school("ground 2 2;row 90;row 12" + nets);
            Checks.is("two" + nets, s.trays(2, 0), 4);
            Checks.is("first", s.trays(2, 1), 0);
            Checks.is("second", s.trays(2, 2), 2);
            Checks.is("three" + nets, s.trays(3, 0), 1);
            Checks.is("third", s.trays(3, 3), 3);
        }
        FallSchool again = Checks.school("ground 2 2");
        Checks.is("on level ground all", again.trays(3, 0), 4);
        Checks.ground(again, "ground 2 2;row 90;row 12");
        Checks.is("none of these is left", again.trays(3, 0), 1);
        // 3 leads to 0 by 2: a cell far down the fall, and behind in numbers.
        FallSchool far = Checks.school("ground 2 2;row 19;row 23");
        Checks.is("1 and 3 lead to 0 and 2, 2 to 0: 1 2, 1 3", far.trays(2, 0), 2);
        Checks.is("1", far.trays(2, 1), 1);
        Checks.is("2", far.trays(2, 2), 2);
        FallSchool stairs = Checks.school(STAIRS);
        Checks.is("24 over 2 less the pairs of which one leads to the other", stairs.trays(2, 0), 276 - stairsPairs(stairs));
    }

    /** Every cell that is passed on a cell's fall makes one pair that can't be. */
    private static int stairsPairs(FallSchool s) {
        int pairs = 0;
        for (int cell = 0; cell < 24; cell++) {
            pairs += s.cell(cell, 6);
        }
        return pairs;
    }

    /** Promise 22: "GAME what 0: 1 if who begins wins, else 0, 1: the SIDE (-2: there is none)." */
    private static void gameTellsTwo() {
        FallSchool s = Checks.school(SLOPE);
        int[] sides = {-2, 1, -2, 2, 1, -2, 1, -2};
        for (int cell = 0; cell < 8; cell++) {
            Checks.is("game from " + cell, s.game(cell, 0), sides[cell] < 0 ? 0 : 1);
            Checks.is("side from " + cell, s.game(cell, 1), sides[cell]);
        }
    }

    /** Promise 22: "NONE without these." */
    private static void gameRefusesOthers() {
        FallSchool s = Checks.school(SLOPE);
        for (int bad : new int[] {-1, 8, 48, Checks.LEAST, Checks.MOST}) {
            Checks.is("no cell " + bad, s.game(bad, 0), -1);
        }
        for (int bad : new int[] {-1, 2, Checks.LEAST, Checks.MOST}) {
            Checks.is("no such what: " + bad, s.game(0, bad), -1);
        }
        Checks.is("no ground", new FallSchool().game(0, 0), -1);
    }

    /**
     * Promise 22, Terms: "GAME from a cell: by turns one goes to a lower cell BESIDE; who can't has lost: whether who
     * begins wins; the first SIDE by which."
     */
    private static void whoCantGoHasLost() {
        FallSchool stairs = Checks.school(STAIRS + ";net 7;net 23");
        int[] column = {23, 15, 7, 6, 5, 4, 3, 2, 1, 0};
        for (int steps = 0; steps < column.length; steps++) {
            Checks.is(steps + " steps, nets not asked", stairs.game(column[steps], 0), steps % 2);
        }
        FallSchool midst = Checks.school("ground 3 3;row 909;row 090;row 909");
        Checks.is("up, down and the sides win: up is first", midst.game(4, 1), 0);
        FallSchool other = Checks.school("ground 2 2;row 21;row 00");
        Checks.is("right would let the other win: down", other.game(0, 1), 2);
        FallSchool level = Checks.school("ground 2 2;row 55;row 55");
        Checks.is("level cells are not lower", level.game(0, 0), 0);
        FallSchool first = Checks.school("ground 2 2;row 10;row 23");
        Checks.is("from 2 one can only go to 0, from where the other goes to 1", first.game(2, 0), 0);
        Checks.ground(first, "ground 2 2;row 01;row 23");
        Checks.is("on another ground 0 is the end: left", first.game(1, 1), 3);
        Checks.is("and up", first.game(2, 1), 0);
        FallSchool left = Checks.school("ground 2 2;row 09;row 99");
        Checks.is("left", left.game(1, 1), 3);
        Checks.is("up", left.game(2, 1), 0);
    }

    /** Promise 23: "CHANCE part 0: above, 1: below the line; NONE without these." */
    private static void chanceRefusesOthers() {
        FallSchool s = Checks.school(SLOPE);
        fraction(s, 0, 5, 3, 4);
        for (int bad : new int[] {-1, 8, 48, Checks.LEAST, Checks.MOST}) {
            Checks.is("no cell " + bad, s.chance(bad, 0, 0), -1);
            Checks.is("no other cell " + bad, s.chance(0, bad, 1), -1);
        }
        for (int bad : new int[] {-1, 2, Checks.LEAST, Checks.MOST}) {
            Checks.is("no such part: " + bad, s.chance(0, 0, bad), -1);
        }
        Checks.is("no ground", new FallSchool().chance(0, 0, 0), -1);
    }

    /**
     * Promise 23, Terms: "CHANCE: from a cell, at each STEP to each lower cell BESIDE alike likely, till a FLOOR: that one
     * comes to another cell (or begins there): a fraction in lowest terms."
     */
    private static void chancesInLowestTerms() {
        FallSchool s = Checks.school(SLOPE);
        fraction(s, 0, 0, 1, 1);
        fraction(s, 7, 7, 1, 1);
        fraction(s, 0, 7, 1, 1);
        fraction(s, 7, 0, 0, 1);
        fraction(s, 5, 4, 0, 1);
        fraction(s, 1, 0, 0, 1);
        fraction(s, 0, 6, 7, 8);
        FallSchool four = Checks.school("ground 3 3;row 919;row 191;row 919;net 1");
        for (int other : new int[] {1, 3, 5, 7}) {
            fraction(four, 4, other, 1, 4);
        }
        fraction(four, 0, 3, 1, 2);
        fraction(four, 0, 8, 0, 1);
        fraction(Checks.school("ground 2 2;row 10;row 23"), 2, 1, 1, 1);
        FallSchool three = Checks.school("ground 3 3;row 919;row 199;row 919");
        fraction(three, 4, 7, 1, 3);
        fraction(three, 4, 5, 0, 1);
        // Nine steps with two cells lower each: 126 (9 over 4) of 512 rows of steps come to row 4, column 5.
        FallSchool deep = Checks.school("ground 8 6;row 98765432;row 87654321;row 76543210;row 65432100;row 54321000;row 43210000");
        fraction(deep, 0, 37, 63, 256);
        fraction(Checks.school(STAIRS), 0, 23, 1, 1);
    }

    private static void fraction(FallSchool s, int cell, int other, long above, long below) {
        Checks.is("chance " + cell + " to " + other + ", above", s.chance(cell, other, 0), above);
        Checks.is("chance " + cell + " to " + other + ", below", s.chance(cell, other, 1), below);
    }

    /** Promise 24: "INSURE, as bits; NONE without these." */
    private static void insureRefusesOthers() {
        FallSchool s = Checks.school(SLOPE);
        Checks.is("price 0", s.insure(0, 0), 1);
        Checks.is("price 60", s.insure(0, 60), 0);
        for (int bad : new int[] {-1, 61, Checks.LEAST, Checks.MOST}) {
            Checks.is("no price " + bad, s.insure(0, bad), -1);
        }
        for (int bad : new int[] {-1, 2, 5, Checks.LEAST, Checks.MOST}) {
            Checks.is("no person " + bad, s.insure(bad, 0), -1);
        }
        FallSchool full = Checks.school(PIT + ";person 0 0" + ";thing 1 9 1 1".repeat(8));
        Checks.is("all eight bits", full.insure(0, 0), 255);
    }

    /**
     * Promise 24, Terms: "INSURE for a PERSON at a price (0 to 60): THINGS not their own, whole, for which WORTH times in
     * how many of the FALLS with SIDES 0 to 3 they break is above 4 times the price."
     */
    private static void insureWhatIsAboveThePrice() {
        FallSchool s = Checks.school(SLOPE);
        Checks.is("10 in 3 of 4 falls is above 28", s.insure(0, 7), 1);
        Checks.is("and not above 32", s.insure(0, 8), 0);
        FallSchool all = Checks.school(PIT + ";person 0 0;person 0 0;thing 1 9 9 60;thing 1 1 9 60;thing 1 9 9 0;thing 1 9 10 60");
        Checks.is("240 is not above 240", all.insure(0, 60), 0);
        Checks.is("240 is above 236", all.insure(0, 59), 3);
        Checks.is("not one's own", all.insure(1, 59), 1);
        Checks.is("worth 0, and what doesn't break, never is", all.insure(0, 0), 3);
        all.fall(1, 4);
        Checks.is("not what is broken", all.insure(0, 0), 0);
        // Right and, by what leads, up come to 5; down to 7; left to 3.
        FallSchool one = Checks.school("ground 3 3;row 999;row 191;row 929;person 4 0;thing 7 9 1 1;thing 5 9 1 8");
        Checks.is("1 in one fall is above 0, and 8 in two", one.insure(0, 0), 3);
        Checks.is("8 in two falls, up and right, is above 12", one.insure(0, 3), 2);
        Checks.is("16 is not above 16", one.insure(0, 4), 0);
        // Up is lower, right is lowest: of the falls with sides 0 to 3 that to the right alone comes to 5.
        FallSchool right = Checks.school("ground 3 3;row 989;row 890;row 989;person 4 0;thing 5 9 1 8");
        Checks.is("8 in one fall is above 4", right.insure(0, 1), 1);
        Checks.is("and not above 8: leaning to none is no such fall", right.insure(0, 2), 0);
        Checks.is("on a floor nothing breaks", Checks.school(PIT + ";person 1 0;thing 1 9 1 60", "break 1=1").insure(0, 0), 0);
    }

    // ---- Promises 25 and 26

    /** Promise 25: "HOURS till the END of a LESSON; -2: never; NONE without it." */
    private static void lessonTellsItsEnd() {
        FallSchool s = Checks.school("ground 2 2;lesson 20;lesson 1;lesson 2;after 1 2;after 2 1");
        Checks.is("20", s.lesson(0), 20);
        Checks.is("never", s.lesson(1), -2);
        Checks.is("never either", s.lesson(2), -2);
        for (int bad : new int[] {-1, -2, 3, 8, Checks.LEAST, Checks.MOST}) {
            Checks.is("no lesson " + bad, s.lesson(bad), -1);
        }
        Checks.is("no lessons", Checks.school("ground 2 2").lesson(0), -1);
        Checks.is("no ground", new FallSchool().lesson(0), -1);
    }

    /**
     * Promise 25, Terms: "LESSONS: each begins when all it comes AFTER have ended (0 at first): HOURS till one's END (it
     * is in a RING, or behind one: never)."
     */
    private static void lessonsBeginBehindAllTheyComeAfter() {
        FallSchool s = Checks.school("ground 2 2;lesson 3;lesson 20;lesson 1;lesson 2;lesson 4;lesson 5;lesson 6"
                + ";after 0 2;after 0 1;after 3 4;after 4 5;after 5 3;after 6 3;after 6 0");
        Checks.is("behind 20 and 1", s.lesson(0), 23);
        Checks.is("at first", s.lesson(2), 1);
        for (int lesson = 3; lesson <= 5; lesson++) {
            Checks.is("in a ring of three", s.lesson(lesson), -2);
        }
        Checks.is("behind a ring, and behind what ends", s.lesson(6), -2);
        FallSchool chain = Checks.school("ground 2 2" + ";lesson 20".repeat(8)
                + ";after 0 1;after 1 2;after 2 3;after 3 4;after 4 5;after 5 6;after 6 7");
        for (int lesson = 0; lesson < 8; lesson++) {
            Checks.is("the chain's " + lesson, chain.lesson(lesson), 20 * (8 - lesson));
        }
        FallSchool ahead = Checks.school("ground 2 2;lesson 1;lesson 2;lesson 3;after 1 0;after 2 1;after 1 2");
        Checks.is("ahead of a ring", ahead.lesson(0), 1);
    }

    /**
     * Promise 26: "ORDER: the LESSON in the k-th place (0 and on); -2: so many there are not; NONE for k below 0, or
     * without a GROUND."
     */
    private static void orderTellsPlaces() {
        FallSchool s = Checks.school("ground 2 2;lesson 1;lesson 1;lesson 1;after 0 2");
        int[] due = {1, 2, 0, -2, -2};
        for (int k = 0; k < due.length; k++) {
            Checks.is("order " + k, s.order(k), due[k]);
        }
        Checks.is("far too many", s.order(Checks.MOST), -2);
        for (int bad : new int[] {-1, -2, Checks.LEAST}) {
            Checks.is("k is " + bad, s.order(bad), -1);
        }
        Checks.is("no lessons", Checks.school("ground 2 2").order(0), -2);
        Checks.is("no ground", new FallSchool().order(0), -1);
        Checks.is("no ground, and far too many", new FallSchool().order(Checks.MOST), -1);
    }

    /**
     * Promise 26, Terms: "ORDER: that in which each comes behind all it comes AFTER, always the least that can be next
     * (those that never can are not in it)."
     */
    private static void orderTakesTheLeastThatCanBeNext() {
        FallSchool s = Checks.school("ground 2 2" + ";lesson 1".repeat(7)
                + ";after 0 3;after 1 3;after 4 5;after 5 4;after 2 0;after 6 4");
        int[] due = {3, 0, 1, 2, -2, -2, -2};
        for (int k = 0; k < due.length; k++) {
            Checks.is("order " + k, s.order(k), due[k]);
        }
        FallSchool long8 = Checks.school("ground 2 2" + ";lesson 20".repeat(8)
                + ";after 0 1;after 1 2;after 2 3;after 3 4;after 4 5;after 5 6;after 6 7");
        for (int k = 0; k < 8; k++) {
            Checks.is("a chain's " + k, long8.order(k), 7 - k);
        }
        Checks.is("no ninth", long8.order(8), -2);
        FallSchool hours = Checks.school("ground 2 2;lesson 20;lesson 1");
        Checks.is("by numbers, not by hours", hours.order(0), 0);
        FallSchool ring = Checks.school("ground 2 2;lesson 1;lesson 1;after 0 1;after 1 0");
        Checks.is("all are in a ring", ring.order(0), -2);
    }

    // ---- Promises 27 to 29

    /** Promise 27: "x becomes a number: what it was; NONE, and nothing happens, below 0." */
    private static void seedRefusesBelowZero() {
        FallSchool s = new FallSchool();
        Checks.is("0 at first", s.seed(Checks.MOST), 0);
        Checks.is("the greatest", s.seed(0), Checks.MOST);
        Checks.is("the least", s.seed(5), 0);
        for (int bad : new int[] {-1, -2, Checks.LEAST}) {
            Checks.is("seed " + bad, s.seed(bad), -1);
            Checks.is("nothing happens", s.count(12), 5);
        }
    }

    /**
     * Promise 28, Terms: "DRAWS: x (0 to 2147483647; 0 at first) becomes x * 1103515245 + 12345, of 2147483648 the rest; a
     * DRAW is x / 65536."
     */
    private static void drawsGoRound() {
        // From 2147483647 the draws are 15929 4409 9862, 26718 8713 28226, 9080 32063 8032: person 1 in 1, person 0 in
        // 1, then person 0 in 3, who falls upon person 1 in 1: 9, and half of it.
        FallSchool s = Checks.school(PIT + ";person 2 0;person 2 0");
        s.seed(Checks.MOST);
        Checks.is("the first two never begin", s.terms(1, 2, 2), 0);
        Checks.is("the third falls", s.terms(1, 3, 2), 4);
        Checks.is("the third of three terms finds 1 empty", s.terms(3, 1, 2), 9);
        // From 0 they are 0 21468 9988, 22117 3498 16927: person 0 in 0 leans to the left, person 1 in 2.
        s.seed(0);
        Checks.is("the first falls", s.terms(1, 1, 2), 9);
        Checks.is("the second never begins", s.terms(1, 2, 2), 9);
        // The side is drawn mod 5: from 8 the draws are 3634 26864 10994: person 0 in 26864 mod 9 = 8 leans to none.
        FallSchool none = Checks.school("ground 3 3;row 999;row 990;row 918;person 0 0");
        none.seed(8);
        Checks.is("to none: up, to height 0", none.terms(1, 1, 2), 8);
        // From 1: 16838 5758 10113: cell 5758 mod 9 = 7, side 3; with 8 high there and a left cell lower by 1.
        FallSchool left = Checks.school("ground 3 3;row 999;row 999;row 780;person 0 0");
        left.seed(1);
        Checks.is("leaning to the left", left.terms(1, 1, 2), 1);
    }

    /** Promise 28: "TERMS what 0: MARKS, 1: THINGS that broke, 2: HURT." */
    private static void termsTellThree() {
        // From 11 the draws are 21381 12504 11371, 4268 11672 23702: person 1 in 0, then person 0 in 0, both to 1.
        FallSchool s = Checks.school(PIT + ";person 2 0;person 2 0;thing 1 9 9 30");
        s.seed(11);
        int[] one = {70, 1, 9};
        int[] two = {170, 1, 13};
        int[] twice = {140, 2, 18};
        for (int what = 0; what < 3; what++) {
            Checks.is("a fall, " + what, s.terms(1, 1, what), one[what]);
            Checks.is("two falls: it breaks once, and the second falls upon the first, " + what, s.terms(1, 2, what), two[what]);
            Checks.is("two terms, each from now on, " + what, s.terms(2, 1, what), twice[what]);
        }
    }

    /** Promise 28: "NONE without these, or a GROUND." */
    private static void termsRefuseOthers() {
        FallSchool s = Checks.school(PIT + ";person 0 0");
        for (int bad : new int[] {0, -1, 21, Checks.LEAST, Checks.MOST}) {
            Checks.is("not so many terms: " + bad, s.terms(bad, 1, 0), -1);
        }
        for (int bad : new int[] {0, -1, 41, Checks.LEAST, Checks.MOST}) {
            Checks.is("not so many falls: " + bad, s.terms(1, bad, 0), -1);
        }
        for (int bad : new int[] {-1, 3, Checks.LEAST, Checks.MOST}) {
            Checks.is("no such what: " + bad, s.terms(1, 1, bad), -1);
        }
        Checks.is("no ground", new FallSchool().terms(1, 1, 0), -1);
    }

    /**
     * Promise 28, Terms: "TERMS m times (1 to 20) n FALLS (1 to 40) from now on: a DRAW mod PEOPLE, a DRAW mod cells: that
     * one is there; a DRAW mod 5: the SIDE: a FALL: MARKS, THINGS that broke, HURT, all together"
     */
    private static void termsOfManyFalls() {
        FallSchool s = Checks.school(PIT + ";person 2 0;thing 1 9 9 60");
        Checks.is("20 terms of 40 falls: it breaks once in each", s.terms(20, 40, 1), 20);
        Checks.is("its marks", s.terms(20, 40, 0), 20 * 40 * 100 - 20 * 60);
        Checks.is("broken once in 40 falls", s.terms(1, 40, 1), 1);
        Checks.is("hurt by 9 whenever one falls from 0 or 3", s.terms(20, 40, 2), 9 * fallsIntoThePit(0, 800));
        s.seed(Checks.MOST);
        Checks.is("another x", s.terms(20, 40, 2), 9 * fallsIntoThePit(Checks.MOST, 800));
        s.fall(0, 4);
        s.walk(0, 0);
        s.walk(0, 1);
        Checks.is("from now on: whole still", s.terms(1, 40, 1), 1);
        FallSchool broken = Checks.school(PIT + ";person 0 0;thing 1 9 9 60");
        broken.fall(0, 4);
        Checks.is("from now on: broken already", broken.terms(20, 40, 1), 0);
        FallSchool law = Checks.school(PIT + ";person 2 0;thing 1 9 9 60", "mark 25");
        Checks.is("by the law in force", law.terms(1, 40, 0), 40 * 100 - 25);
        FallSchool five = Checks.school(PIT + ";person 2 0".repeat(5));
        Checks.is("five people's marks", five.terms(20, 40, 0), 80000);
    }

    /** How often one person's second draw is 0 or 3 mod 4. */
    private static int fallsIntoThePit(long seed, int falls) {
        long x = seed;
        int into = 0;
        for (int draw = 0; draw < 3 * falls; draw++) {
            x = (x * 1103515245L + 12345L) & 0x7fffffffL;
            long mod = (x >> 16) % 4;
            into += draw % 3 == 1 && (mod == 0 || mod == 3) ? 1 : 0;
        }
        return into;
    }

    /** Promise 28, Terms: "(without PEOPLE nothing is drawn; x as it was)." */
    private static void termsWithoutPeople() {
        FallSchool s = Checks.school("ground 2 2;row 90;thing 1 9 1 1");
        s.seed(77);
        for (int what = 0; what < 3; what++) {
            Checks.is("nothing, " + what, s.terms(20, 40, what), 0);
        }
        Checks.is("x as it was", s.count(12), 77);
        Checks.is("still no such what", s.terms(20, 40, 3), -1);
        FallSchool people = Checks.school(PIT + ";person 0 0");
        people.seed(77);
        people.terms(20, 40, 0);
        Checks.is("x as it was with people too", people.count(12), 77);
        Checks.is("where they were", people.person(0, 0), 0);
    }

    /**
     * Promise 29: "What 0: COLUMNS, 1: ROWS, 2: PEOPLE, 3: THINGS, 4: NETS, 5: LESSONS, 6: AFTERS, 7: RULES, 8: the RULE IN
     * FORCE (NONE), 9: THINGS that are broken, as bits, 10: CLUES, 11: ACTS that can be UNDONE, 12: x, 13: bytes of the
     * TAPE."
     */
    private static void countTellsFourteen() {
        FallSchool s = Checks.school("ground 3 2;row 905;row 999;person 0 0;person 0 0" + ";thing 1 9 1 1".repeat(8)
                + ";net 5;net 4;net 3;lesson 1;lesson 2;lesson 3;lesson 4;lesson 5;after 0 1;after 1 0;after 2 1;after 2 0");
        for (int i = 0; i < 6; i++) {
            Checks.rule(s, "mark 1");
        }
        s.force(5);
        s.fall(0, 4);
        s.mend(0);
        s.put(0, 0);
        for (int i = 0; i < 8; i++) {
            s.clue(i, true);
        }
        s.seed(Checks.MOST);
        s.feed(1, 2, 3, 4, 5);
        int[] due = {3, 2, 2, 8, 3, 5, 4, 6, 5, 254, 8, 3, Checks.MOST, 20};
        for (int what = 0; what < due.length; what++) {
            Checks.is("count " + what, s.count(what), due[what]);
        }
        s.force(-1);
        Checks.is("none in force", s.count(8), -1);
    }

    /** Promise 29: "NONE for others." */
    private static void countRefusesOthers() {
        FallSchool s = Checks.school(SLOPE);
        for (int bad : new int[] {-1, -2, 14, Checks.LEAST, Checks.MOST}) {
            Checks.is("no count " + bad, s.count(bad), -1);
        }
    }

    // ---- Promises 30 and 31

    /** Promise 30: "An IMAGE is made: how many THINGS are broken; NONE without it." */
    private static void imageTellsWhatIsBroken() {
        FallSchool s = new FallSchool();
        Checks.is("without a ground", s.image(0), 0);
        Checks.ground(s, PIT + ";person 0 0" + ";thing 1 9 1 1".repeat(8));
        Checks.is("all whole", s.image(3), 0);
        s.fall(0, 4);
        Checks.is("all eight", s.image(3), 8);
        s.mend(0);
        Checks.is("seven, in its place", s.image(3), 7);
        for (int bad : new int[] {-1, 4, Checks.LEAST, Checks.MOST}) {
            Checks.is("no image " + bad, s.image(bad), -1);
        }
        s.mend(1);
        Checks.is("the last one made", s.back(3), 7);
    }

    /**
     * Promise 31: "All is as in an IMAGE: how many THINGS are broken; NONE, and nothing happens, if it was never made, or
     * without it."
     */
    private static void backRefusesOthers() {
        FallSchool s = Checks.school(SLOPE);
        for (int k = 0; k < 4; k++) {
            Checks.is("never made: " + k, s.back(k), -1);
        }
        s.image(1);
        s.fall(0, 4);
        for (int bad : new int[] {0, 2, 3, -1, 4, Checks.LEAST, Checks.MOST}) {
            Checks.is("no way back to " + bad, s.back(bad), -1);
            Checks.is("nothing happens: broken", s.count(9), 3);
            Checks.is("nothing happens: acts", s.count(11), 1);
            Checks.is("nothing happens: people", s.person(0, 0), 7);
        }
        s.image(2);
        Checks.is("back to what was made", s.back(1), 0);
        Checks.is("whole", s.count(9), 0);
        Checks.is("two are broken there", s.back(2), 2);
    }

    /**
     * Promise 31, Terms: "IMAGES 0 to 3: all but the RULES and the TAPE, as it is (the RULE IN FORCE, what can be UNDONE,
     * too); gone back to, it is as it was (these stay)."
     */
    private static void imagesKeepAllButRulesAndTape() {
        FallSchool s = Checks.school(SLOPE + ";lesson 3;lesson 4;after 0 1", "break 1=1");
        s.seed(123);
        s.clue(0, true);
        s.fall(0, 4);
        s.mend(1);
        s.put(1, 4);
        s.image(0);
        s.image(1);
        s.image(2);
        Checks.rule(s, "mark 1");
        s.feed(1, 2, 3, 4, 5);
        String before = Checks.sight(s);
        s.force(1);
        s.seed(9);
        s.clue(-1, true);
        s.clue(2, false);
        while (s.undo() >= 0) {
            s.count(11);
        }
        s.put(0, 7);
        s.put(0, 6);
        s.put(0, 5);
        s.fall(1, 4);
        Checks.ground(s, "ground 2 2;person 3 0;lesson 9");
        s.walk(0, 0);
        s.feed(1, 2, 3, 4, 5);
        Checks.is("back", s.back(0), 1);
        Checks.is("the rule that was in force", s.count(8), 0);
        Checks.is("the rules stay", s.count(7), 2);
        Checks.is("the tape stays", s.count(13), 20);
        Checks.is("lessons", s.lesson(0), 7);
        Checks.is("heights", s.cell(0, 0), 9);
        Checks.same("all is as it was", Checks.sight(s), before);
        s.undo();
        s.clue(-1, true);
        Checks.is("again: the image stays as it was", s.back(0), 1);
        Checks.same("all is as in it", Checks.sight(s), before);
        Checks.is("the others stay too", s.back(2), 1);
        Checks.same("and are alike", Checks.sight(s), before);
    }

    /**
     * Promise 31, Terms: "IMAGES 0 to 3: all but the RULES and the TAPE, as it is (the RULE IN FORCE, what can be UNDONE,
     * too); gone back to, it is as it was (these stay)."
     */
    private static void imagesKeepClues() {
        FallSchool s = Checks.school(PIT + ";person 2 0;thing 1 9 9 1;thing 1 9 10 1");
        s.image(0);
        s.clue(0, false);
        s.image(1);
        s.clue(-1, true);
        s.clue(0, true);
        s.clue(1, false);
        s.image(2);
        s.back(1);
        Checks.is("one clue", s.count(10), 1);
        Checks.is("it did not break: from 1 on", s.from(0, 1), 1);
        s.back(2);
        Checks.is("two clues", s.count(10), 2);
        Checks.is("it broke: from 0 on", s.from(0, 1), 0);
        s.back(0);
        Checks.is("none", s.count(10), 0);
        Checks.is("from everywhere", s.from(0, 0), 20);
    }
}
