/**
 * The boundaries of promises 1 to 6, and of what the document's Terms, part I, tell of texts. Each test's remark quotes
 * the sentence that it holds; RemarksTest finds these words in the document.
 */
public final class BoundaryTextsTest {
    /** Down 9 6 3 1 and to the floor 7; thing 0 and 1 break, person 1 sits at the end. */
    private static final String SLOPE = "ground 4 2;row 9631;row 7520;person 0 1;person 7 0"
            + ";thing 2 9 4 10;thing 3 0 5 20;thing 5 1 3 7;net 6";
    /** From height 9 to 0 in one step, upon thing 0. */
    private static final String PIT = "ground 2 2;row 90;row 99;person 0 0;thing 1 9 1 1";
    private static final int BLANKS = 0x20202020;
    private static final String TWO_TO_63 = "32768*65536*65536*65536";

    public static void main(String[] args) {
        Checks.runAll(BoundaryTextsTest.class);
    }

    // ---- Promises 1 to 6

    /** Promise 1: "No GROUND, no RULES, none IN FORCE." */
    private static void aNewObjectHasNothing() {
        FallSchool s = new FallSchool();
        int[] due = {0, 0, 0, 0, 0, 0, 0, 0, -1, 0, 0, 0, 0, 0};
        for (int what = 0; what < due.length; what++) {
            Checks.is("count " + what, s.count(what), due[what]);
        }
        Checks.is("no rule", s.force(0), -2);
        Checks.is("none was in force", s.force(-1), -1);
        Checks.is("no cell", s.cell(0, 0), -2);
        Checks.is("no person", s.person(0, 0), -1);
        Checks.is("no thing", s.thing(0, 0), -1);
        Checks.is("no lesson", s.lesson(0), -1);
        Checks.is("nothing to undo", s.undo(), -2);
    }

    /** Promise 1: "No GROUND, no RULES, none IN FORCE." */
    private static void aNewObjectRefusesWhatNeedsAGround() {
        FallSchool s = new FallSchool();
        Checks.is("fall", s.fall(0, 4), -1);
        Checks.is("walk", s.walk(0, 0), -1);
        Checks.is("put", s.put(0, 0), -1);
        Checks.is("mend", s.mend(0), false);
        Checks.is("would", s.would(0, 4, 0), -1);
        Checks.is("lean", s.lean(0), -1);
        Checks.is("way", s.way(0, -1), -3);
        Checks.is("clue", s.clue(0, true), -2);
        Checks.is("from", s.from(0, 0), -1);
        Checks.is("shard", s.shard(0, 0), -1);
        Checks.is("trays", s.trays(1, 0), -1);
        Checks.is("game", s.game(0, 0), -1);
        Checks.is("chance", s.chance(0, 0, 0), -1);
        Checks.is("insure", s.insure(0, 0), -1);
        Checks.is("order", s.order(0), -1);
        Checks.is("terms", s.terms(1, 1, 0), -1);
        Checks.is("no act came of it", s.count(11), 0);
    }

    /** Promise 2: "Twenty bytes come behind the TAPE, of each number the highest first: how many it has" */
    private static void feedPutsTwentyBytesBehindTheTape() {
        FallSchool s = new FallSchool();
        // "grou" "nd 2" " 2;l" "esso" "n 19"
        Checks.is("the first", s.feed(0x67726f75, 0x6e642032, 0x20323b6c, 0x6573736f, 0x6e203139), 20);
        Checks.is("end", s.end(19), 19);
        // "7;le" "sson" " 3" and blanks come at the tape's end, not behind the byte that was cut off.
        Checks.is("behind it", s.feed(0x373b6c65, 0x73736f6e, 0x20332020, BLANKS, BLANKS), 39);
        Checks.is("ground", s.ground(), 4);
        Checks.is("1 and 7 are one number", s.lesson(0), 17);
        Checks.is("the other one", s.lesson(1), 3);
    }

    /** Promise 2: "Twenty bytes come behind the TAPE, of each number the highest first: how many it has" */
    private static void feedTakesNumbersBelowZero() {
        FallSchool s = new FallSchool();
        Checks.is("-1 is four bytes 255", s.feed(-1, Checks.LEAST, Checks.MOST, 0, -1), 20);
        Checks.is("which begin no clause", s.rule(), -3);
        // "mark", a blank and 1, 13 blanks, a byte 128 (it would be a letter, were its highest bit lost).
        s.feed(0x6d61726b, 0x20312020, BLANKS, BLANKS, 0x202020e1);
        Checks.is("byte 225 is none of 7 bits", s.rule(), -2 - (1 + 8 * 19));
    }

    /** Promise 2: "NONE, and none comes, if it would have more than 400." */
    private static void feedRefusesBeyond400() {
        FallSchool s = new FallSchool();
        for (int i = 1; i <= 20; i++) {
            Checks.is("feed " + i, s.feed(BLANKS, BLANKS, BLANKS, BLANKS, BLANKS), 20 * i);
        }
        Checks.is("400 and 20", s.feed(1, 2, 3, 4, 5), -1);
        Checks.is("none came", s.count(13), 400);
        s.end(381);
        Checks.is("381 and 20", s.feed(1, 2, 3, 4, 5), -1);
        Checks.is("none came, not even what would fit", s.count(13), 381);
        s.end(380);
        Checks.is("380 and 20 are just 400", s.feed(BLANKS, BLANKS, BLANKS, BLANKS, 0x20202078), 400);
        Checks.is("all are blanks but the last one", s.ground(), -2 - (1 + 8 * 399));
    }

    /** Promise 3: "The TAPE has its first n bytes alone: n" */
    private static void endKeepsTheFirstBytes() {
        FallSchool s = new FallSchool();
        Checks.is("0 of none", s.end(0), 0);
        s.feed(0x6d61726b, 0x20310000, 0, 0, 0);
        Checks.is("all of them", s.end(20), 20);
        Checks.is("six", s.end(6), 6);
        Checks.is("so many there are", s.count(13), 6);
        Checks.is("mark 1", s.rule(), 0);
        s.feed(0x6d61726b, 0x20310000, 0, 0, 0);
        Checks.is("none of 20", s.end(0), 0);
        Checks.is("an empty text", s.rule(), -3);
    }

    /** Promise 3: "NONE, and nothing happens, if it has not so many, or n is below 0." */
    private static void endRefusesWhatTheTapeHasNot() {
        FallSchool s = new FallSchool();
        Checks.is("1 of none", s.end(1), -1);
        s.feed(0x6d61726b, 0x20310000, 0, 0, 0);
        s.end(6);
        for (int bad : new int[] {7, 20, 400, Checks.MOST, -1, Checks.LEAST}) {
            Checks.is("end " + bad, s.end(bad), -1);
            Checks.is("nothing happens", s.count(13), 6);
        }
        Checks.is("the text is as it was", s.rule(), 0);
    }

    /**
     * Promise 4: "The TAPE, which is empty then, is the GROUND in place of the one there was (no CLUES, nothing to be
     * UNDONE; the RULE IN FORCE and x stay): how many cells"
     */
    private static void groundComesInPlaceOfAnother() {
        FallSchool s = Checks.school(SLOPE + ";lesson 1;lesson 2;after 0 1", "break 1=1");
        s.seed(77);
        s.fall(0, 4);
        s.walk(1, 0);
        s.clue(0, true);
        Checks.is("the least ground", Checks.ground(s, "ground 2 2"), 4);
        int[] due = {2, 2, 0, 0, 0, 0, 0, 1, 0, 0, 0, 0, 77, 0};
        for (int what = 0; what < due.length; what++) {
            Checks.is("count " + what, s.count(what), due[what]);
        }
        Checks.is("nothing to be undone", s.undo(), -2);
        Checks.is("no height of the other one", s.cell(0, 0), 0);
        Checks.is("no cell of the other one", s.cell(4, 0), -2);
        Checks.is("no lesson of the other one", s.order(0), -2);
        Checks.is("the greatest ground", Checks.ground(s, "ground 8 6;person 0 0;thing 0 9 1 1"), 48);
        Checks.is("no clue of the other one", s.from(0, 0), 240);
    }

    /** Promise 4: "-2 - its FAULT, and all stays." */
    private static void groundWithAFaultChangesNothing() {
        FallSchool s = Checks.school(SLOPE, "break 1=1");
        s.seed(77);
        s.fall(0, 4);
        s.mend(0);
        s.clue(0, true);
        String before = Checks.sight(s);
        Checks.is("a fault behind much that is sound", Checks.ground(s, "ground 2 2;person 0 0;thing 0 0 1 1;x"), -2 - (1 + 8 * 36));
        Checks.same("all stays", Checks.sight(s), before);
        Checks.is("a fault at the end of nothing", s.ground(), -3);
        Checks.same("all stays still", Checks.sight(s), before);
        Checks.is("its heights too", s.cell(0, 0), 9);
    }

    /** Promise 5: "The TAPE, which is empty then, is a RULE: its number" */
    private static void ruleTakesTheTape() {
        FallSchool s = new FallSchool();
        Checks.is("the first", Checks.rule(s, "mark 1"), 0);
        Checks.is("the tape is empty", s.count(13), 0);
        Checks.is("one rule", s.count(7), 1);
        Checks.is("none is in force by that", s.count(8), -1);
        Checks.is("the same text is another rule", Checks.rule(s, "mark 1"), 1);
    }

    /** Promise 5: "-2 - its FAULT" */
    private static void ruleWithAFaultIsNone() {
        FallSchool s = new FallSchool();
        Checks.is("an empty tape: 1 + 8 * 0", s.rule(), -3);
        Checks.is("mark: 1 + 8 * 4", Checks.rule(s, "mark"), -35);
        Checks.is("it has no number", s.count(7), 0);
        Checks.is("the next one has", Checks.rule(s, "mark 1"), 0);
    }

    /** Promise 5: "NONE, and nothing happens: there are 6." */
    private static void ruleRefusesASeventh() {
        FallSchool s = new FallSchool();
        for (int i = 0; i < 6; i++) {
            Checks.is("rule " + i, Checks.rule(s, "mark " + i), i);
        }
        Checks.is("a seventh", Checks.rule(s, "mark 6"), -1);
        Checks.is("the tape stays", s.count(13), 6);
        Checks.is("a seventh with a fault", Checks.rule(s, "mark"), -1);
        Checks.is("the tape stays too", s.count(13), 4);
        Checks.is("six", s.count(7), 6);
        Checks.is("the sixth can be in force", s.force(5), -1);
        Checks.is("a seventh can't", s.force(6), -2);
    }

    /** Promise 6: "A RULE is IN FORCE (NONE: none): which was" */
    private static void forceTellsWhichWas() {
        FallSchool s = new FallSchool();
        Checks.is("none of none", s.force(-1), -1);
        Checks.rule(s, "mark 1");
        Checks.rule(s, "mark 2");
        Checks.is("none was", s.force(1), -1);
        Checks.is("1 was", s.force(1), 1);
        Checks.is("1 was still", s.force(0), 1);
        Checks.is("0 was", s.force(-1), 0);
        Checks.is("none is", s.count(8), -1);
    }

    /** Promise 6: "-2, and nothing happens, if there is none such." */
    private static void forceRefusesNoRule() {
        FallSchool s = new FallSchool();
        Checks.is("no rule at all", s.force(0), -2);
        Checks.rule(s, "mark 1");
        s.force(0);
        for (int bad : new int[] {1, 5, 6, Checks.MOST, -2, Checks.LEAST}) {
            Checks.is("force " + bad, s.force(bad), -2);
            Checks.is("nothing happens", s.count(8), 0);
        }
    }

    // ---- Terms I, the ground

    /** Promise 4, Terms: "A GROUND is a text of at most 400 bytes" */
    private static void groundOf400Bytes() {
        String text = "ground 2 2;lesson 17";
        String whole = " ".repeat(400 - text.length()) + text;
        FallSchool s = new FallSchool();
        Checks.is("400 bytes", Checks.ground(s, whole), 4);
        Checks.is("the last one counts", s.lesson(0), 17);
        Checks.is("its end is a place too", Checks.ground(s, " ".repeat(389) + "ground 2 2;"), -2 - (1 + 8 * 400));
    }

    /** Promise 4, Terms: "CLAUSE { ; CLAUSE }, 40 at most" */
    private static void groundOf40Clauses() {
        FallSchool s = Checks.school(fortyClauses());
        int[] due = {2, 6, 5, 6, 4, 8, 10};
        for (int what = 0; what < due.length; what++) {
            Checks.is("count " + what, s.count(what), due[what]);
        }
        Checks.groundFault(fortyClauses() + ";^thing 0 9 1 1", 4);
        Checks.is("one", Checks.ground(s, "ground 2 2"), 4);
        Checks.groundFault("^", 0);
        Checks.groundFault("^;ground 2 2", 0);
        Checks.groundFault("ground 2 2;^", 0);
        Checks.groundFault("ground 2 2;^;row 12", 0);
        Checks.groundFault("ground 2 2 ^row 12", 0);
    }

    private static String fortyClauses() {
        return "ground 2 6" + ";row12".repeat(6) + ";person0 0".repeat(5) + ";lesson 1".repeat(8)
                + ";after 0 1".repeat(10) + ";net 0;net 1;net 2;net 3" + ";thing 0 9 1 1".repeat(6);
    }

    /** Promise 4, Terms: "ground NUMBER NUMBER (COLUMNS 2 to 8, ROWS 2 to 6; once, the first CLAUSE)" */
    private static void groundSizes() {
        for (int columns = 2; columns <= 8; columns++) {
            for (int rows = 2; rows <= 6; rows++) {
                FallSchool s = new FallSchool();
                Checks.is(columns + " and " + rows, Checks.ground(s, "ground " + columns + " " + rows), columns * rows);
                Checks.is("columns", s.count(0), columns);
                Checks.is("rows", s.count(1), rows);
            }
        }
        Checks.groundFault("ground ^1 2", 1);
        Checks.groundFault("ground ^0 2", 1);
        Checks.groundFault("ground ^9 2", 1);
        Checks.groundFault("ground 2 ^1", 1);
        Checks.groundFault("ground 2 ^0", 1);
        Checks.groundFault("ground 2 ^7", 1);
        Checks.groundFault("ground 2 ^8", 1);
        Checks.groundFault("ground 2 2;^ground 2 2", 4);
        Checks.groundFault("^row 12;ground 2 2", 4);
        Checks.groundFault("^person 0 0;ground 2 2", 4);
        Checks.groundFault("^thing 0 9 1 1", 4);
        Checks.groundFault("^net 0", 4);
        Checks.groundFault("^lesson 1", 4);
        Checks.groundFault("^after 0 1", 4);
    }

    /**
     * Promise 4, Terms: "row DIGITS (as many digits, one behind the other, as there are COLUMNS: the HEIGHTS 0 to 9 of
     * the cells of the next row"
     */
    private static void rowsHaveAsManyDigitsAsColumns() {
        FallSchool s = Checks.school("ground 5 2;row 01234;person 0 0;row 56789");
        for (int cell = 0; cell < 10; cell++) {
            Checks.is("height of " + cell, s.cell(cell, 0), cell);
        }
        FallSchool wide = Checks.school("ground 8 2;row 98765432;row 00000001");
        Checks.is("the eighth", wide.cell(7, 0), 2);
        Checks.is("the last", wide.cell(15, 0), 1);
        Checks.groundFault("ground 8 2;row 1234567^", 0);
        Checks.groundFault("ground 8 2;row 12345678^9", 0);
        Checks.groundFault("ground 2 2;row 1^", 0);
        Checks.groundFault("ground 2 2;row 1^;row 12", 0);
        Checks.groundFault("ground 2 2;row 1^ 2", 0);
        Checks.groundFault("ground 2 2;row 1^-", 0);
        Checks.groundFault("ground 2 2;row ^-1", 0);
        Checks.groundFault("ground 2 2;row ^:1", 0);
        Checks.groundFault("ground 2 2;row ^/1", 0);
    }

    /** Promise 4, Terms: "ROWS of them at most, those not told are 0" */
    private static void rowsNotToldAreZero() {
        FallSchool s = Checks.school("ground 2 3;row 12;row 34");
        int[] due = {1, 2, 3, 4, 0, 0};
        for (int cell = 0; cell < due.length; cell++) {
            Checks.is("height of " + cell, s.cell(cell, 0), due[cell]);
        }
        Checks.is("no row at all, where there were some", Checks.ground(s, "ground 2 3"), 6);
        Checks.is("the first is 0", s.cell(0, 0), 0);
        Checks.is("just as many rows", Checks.ground(s, "ground 2 3;row 12;row 34;row 56"), 6);
        Checks.is("the last is 6", s.cell(5, 0), 6);
        Checks.groundFault("ground 2 3;row 12;row 34;row 56;^row 78", 4);
        Checks.groundFault("ground 2 2;row 12;row 34;^row 56", 4);
        Checks.is("six rows", Checks.ground(s, "ground 2 6" + ";row 99".repeat(6)), 12);
        Checks.groundFault("ground 2 6" + ";row 99".repeat(6) + ";^row", 4);
    }

    /** Promise 4, Terms: "person NUMBER NUMBER (a cell; SOFT 0 to 9)" */
    private static void peopleAreInACellAndSoft() {
        FallSchool s = Checks.school("ground 3 2;person 0 0;person 5 9");
        Checks.is("the first cell", s.person(0, 0), 0);
        Checks.is("soft 0", s.person(0, 1), 0);
        Checks.is("the last cell", s.person(1, 0), 5);
        Checks.is("soft 9", s.person(1, 1), 9);
        Checks.groundFault("ground 3 2;person ^6 0", 1);
        Checks.groundFault("ground 3 2;person 5 ^10", 1);
        Checks.groundFault("ground 3 2;person ^-1 0", 0);
        Checks.groundFault("ground 8 6;person ^48 0", 1);
        Checks.groundFault("ground 3 2;person 5^", 0);
        Checks.groundFault("ground 3 2;person 5 1 ^1", 0);
    }

    /**
     * Promise 4, Terms: "thing NUMBER NUMBER NUMBER NUMBER (a cell; its OWNER: a PERSON that was told, or 9: the
     * school; HARD 1 to 30; WORTH 0 to 60)"
     */
    private static void thingsAreAsTold() {
        FallSchool s = Checks.school("ground 3 2;person 0 0;person 0 0;thing 0 0 1 0;thing 5 9 30 60;thing 5 1 1 1");
        int[][] due = {{0, 0, 1, 0, 0}, {5, 9, 30, 60, 0}, {5, 1, 1, 1, 0}};
        for (int thing = 0; thing < 3; thing++) {
            for (int what = 0; what < 5; what++) {
                Checks.is("thing " + thing + ", " + what, s.thing(thing, what), due[thing][what]);
            }
        }
        Checks.groundFault("ground 3 2;thing ^6 9 1 0", 1);
        Checks.groundFault("ground 3 2;thing 5 ^0 1 0", 1);
        Checks.groundFault("ground 3 2;person 0 0;thing 5 ^1 1 0", 1);
        Checks.groundFault("ground 3 2;thing 5 ^0 1 0;person 0 0", 1);
        Checks.groundFault("ground 3 2;thing 5 ^8 1 0", 1);
        Checks.groundFault("ground 3 2;thing 5 ^10 1 0", 1);
        Checks.groundFault("ground 3 2;thing 5 9 ^0 0", 1);
        Checks.groundFault("ground 3 2;thing 5 9 ^31 0", 1);
        Checks.groundFault("ground 3 2;thing 5 9 30 ^61", 1);
        Checks.groundFault("ground 3 2;thing 5 9 30^", 0);
    }

    /** Promise 4, Terms: "net NUMBER (a cell that has none)" */
    private static void netsAreInCellsOfTheirOwn() {
        FallSchool s = Checks.school("ground 8 6;net 0;net 47;net 31;net 32");
        for (int cell = 0; cell < 48; cell++) {
            boolean due = cell == 0 || cell == 47 || cell == 31 || cell == 32;
            Checks.is("net in " + cell, s.cell(cell, 2), due ? 1 : 0);
        }
        Checks.groundFault("ground 8 6;net ^48", 1);
        Checks.groundFault("ground 8 6;net 47;net ^47", 1);
        Checks.groundFault("ground 8 6;net 0;net 1;net ^00", 1);
        Checks.is("a net that is gone with its ground", Checks.ground(s, "ground 8 6;net 1"), 48);
        Checks.is("0 has none", s.cell(0, 2), 0);
    }

    /** Promise 4, Terms: "lesson NUMBER (HOURS 1 to 20)" */
    private static void lessonsHaveHours() {
        FallSchool s = Checks.school("ground 2 2;lesson 1;lesson 20");
        Checks.is("1", s.lesson(0), 1);
        Checks.is("20", s.lesson(1), 20);
        Checks.groundFault("ground 2 2;lesson ^0", 1);
        Checks.groundFault("ground 2 2;lesson ^21", 1);
        Checks.groundFault("ground 2 2;lesson^", 0);
    }

    /**
     * Promise 4, Terms: "after NUMBER NUMBER (a LESSON that was told, another one that was told ahead of which it can't
     * begin: behind its end)"
     */
    private static void aftersAreOfTwoLessonsThatWereTold() {
        FallSchool s = Checks.school("ground 2 2;lesson 3;lesson 4;after 0 1;after 0 1");
        Checks.is("it begins behind the other's end", s.lesson(0), 7);
        Checks.is("the other one at first", s.lesson(1), 4);
        Checks.is("told twice are two", s.count(6), 2);
        Checks.groundFault("ground 2 2;after ^0 1", 1);
        Checks.groundFault("ground 2 2;lesson 1;lesson 1;after ^2 0", 1);
        Checks.groundFault("ground 2 2;lesson 1;lesson 1;after 0 ^2", 1);
        Checks.groundFault("ground 2 2;lesson 1;after 0 ^1;lesson 1", 1);
        Checks.groundFault("ground 2 2;lesson 1;after ^1 0;lesson 1", 1);
        Checks.groundFault("ground 2 2;lesson 1;lesson 1;after 1 ^1", 1);
    }

    /** Promise 4, Terms: "Cells are COLUMNS * row + column, both from 0 on." */
    private static void cellsGoRowByRow() {
        FallSchool s = Checks.school("ground 3 2;row 123;row 456");
        for (int cell = 0; cell < 6; cell++) {
            Checks.is("height of " + cell, s.cell(cell, 0), cell + 1);
        }
        FallSchool high = Checks.school("ground 2 3;row 12;row 34;row 56");
        for (int cell = 0; cell < 6; cell++) {
            Checks.is("height of " + cell, high.cell(cell, 0), cell + 1);
        }
    }

    /** Promise 4, Terms: "PEOPLE 0 to 4" */
    private static void fivePeople() {
        String five = "ground 2 2;person 0 1;person 1 2;person 2 3;person 3 4;person 0 5";
        FallSchool s = Checks.school(five);
        Checks.is("five", s.count(2), 5);
        for (int person = 0; person < 5; person++) {
            Checks.is("soft of " + person, s.person(person, 1), person + 1);
        }
        Checks.is("no sixth", s.person(5, 0), -1);
        Checks.is("the fifth owns", Checks.ground(s, five + ";thing 0 4 1 1"), 4);
        Checks.groundFault(five + ";^person 0 0", 4);
        Checks.groundFault(five + ";thing 0 ^5 1 1", 1);
    }

    /** Promise 4, Terms: "THINGS 0 to 7" */
    private static void eightThings() {
        StringBuilder eight = new StringBuilder("ground 2 2");
        for (int thing = 0; thing < 8; thing++) {
            eight.append(";thing 0 9 1 ").append(thing);
        }
        FallSchool s = Checks.school(eight.toString());
        Checks.is("eight", s.count(3), 8);
        for (int thing = 0; thing < 8; thing++) {
            Checks.is("worth of " + thing, s.thing(thing, 3), thing);
        }
        Checks.is("no ninth", s.thing(8, 0), -1);
        Checks.is("all are in the cell", s.cell(0, 4), 255);
        Checks.groundFault(eight + ";^thing 0 9 1 1", 4);
    }

    /** Promise 4, Terms: "NETS 0 to 3" */
    private static void fourNets() {
        FallSchool s = Checks.school("ground 3 2;net 0;net 1;net 2;net 3");
        Checks.is("four", s.count(4), 4);
        Checks.groundFault("ground 3 2;net 0;net 1;net 2;net 3;^net 4", 4);
    }

    /** Promise 4, Terms: "LESSONS 0 to 7" */
    private static void eightLessons() {
        StringBuilder eight = new StringBuilder("ground 2 2");
        for (int hours = 1; hours <= 8; hours++) {
            eight.append(";lesson ").append(hours);
        }
        FallSchool s = Checks.school(eight.toString());
        Checks.is("eight", s.count(5), 8);
        for (int lesson = 0; lesson < 8; lesson++) {
            Checks.is("hours of " + lesson, s.lesson(lesson), lesson + 1);
        }
        Checks.is("no ninth", s.lesson(8), -1);
        Checks.is("the eighth comes after", Checks.ground(s, eight + ";after 7 0;after 0 6"), 4);
        Checks.groundFault(eight + ";^lesson 1", 4);
        Checks.groundFault(eight + ";after ^8 0", 1);
    }

    /** Promise 4, Terms: "AFTERS 0 to 9, in the order told." */
    private static void tenAfters() {
        String ten = "ground 2 2;lesson 1;lesson 1" + ";after 1 0".repeat(10);
        FallSchool s = Checks.school(ten);
        Checks.is("ten", s.count(6), 10);
        Checks.is("they hold", s.lesson(1), 2);
        Checks.groundFault(ten + ";^after 1 0", 4);
    }

    /** Promise 4, Terms: "All THINGS are whole." */
    private static void allThingsAreWhole() {
        FallSchool s = Checks.school(PIT);
        Checks.is("at first", s.count(9), 0);
        s.fall(0, 4);
        Checks.is("one breaks", s.count(9), 1);
        Checks.is("the same ground again", Checks.ground(s, PIT), 4);
        Checks.is("whole", s.count(9), 0);
        Checks.is("whole too", s.thing(0, 4), 0);
    }

    // ---- Terms I, rules

    /** Promise 5, Terms: "RULES 0 to 5: texts likewise, 12 CLAUSES at most" */
    private static void ruleOf400BytesAnd12Clauses() {
        FallSchool s = Checks.school(PIT);
        Checks.is("400 bytes", Checks.rule(s, " ".repeat(393) + "mark 42"), 0);
        s.force(0);
        Checks.is("the last one counts", s.would(0, 4, 0), 58);
        Checks.is("its end is a place too", Checks.rule(s, " ".repeat(396) + "mark"), -2 - (1 + 8 * 400));
        Checks.is("twelve clauses", Checks.rule(s, "mark 1 if 1=2;".repeat(11) + "mark 7"), 1);
        s.force(1);
        Checks.is("the last one counts too", s.would(0, 4, 0), 93);
        Checks.ruleFault("mark 1;".repeat(12) + "^mark 1", 4);
        Checks.ruleFault("break 1=1;".repeat(12) + "^break 1=1", 4);
        Checks.ruleFault("break 1=1;mark 1;".repeat(6) + "^mark 1", 4);
        Checks.ruleFault("^", 0);
        Checks.ruleFault("mark 1;^", 0);
        Checks.ruleFault("^ground 2 2", 0);
    }

    /** Promise 5, Terms: "break TEST | mark SUM [ if TEST ]." */
    private static void clausesOfRules() {
        Checks.soundRule("break 1=1");
        Checks.soundRule("mark 1");
        Checks.soundRule("mark 1 if 1=1");
        Checks.ruleFault("break^", 0);
        Checks.ruleFault("break 1^", 0);
        Checks.ruleFault("break 1=1 ^if 1=1", 0);
        Checks.ruleFault("mark^", 0);
        Checks.ruleFault("mark ^if 1=1", 0);
        Checks.ruleFault("mark 1 if^", 0);
        Checks.ruleFault("mark 1 if 1^", 0);
        Checks.ruleFault("mark 1^=1", 0);
        Checks.ruleFault("mark 1 if 1=1 ^if 1=1", 0);
        Checks.ruleFault("^if 1=1", 0);
    }

    /** Promise 5, Terms: "TEST: PART { or PART }. PART: FACT { and FACT }." */
    private static void andBindsCloserThanOr() {
        breaks("1=1 or 1=1 and 1=2", true);
        breaks("1=2 and 1=1 or 1=1", true);
        breaks("1=2 and 1=1 or 1=1 and 1=2", false);
        breaks("1=2 or 1=2 or 1=1", true);
        breaks("1=2 or 1=2 or 1=2", false);
        breaks("1=1 and 1=1 and 1=1", true);
        breaks("1=1 and 1=1 and 1=2", false);
        Checks.ruleFault("break ^or 1=1", 0);
        Checks.ruleFault("break 1=1 or^", 0);
        Checks.ruleFault("break 1=1 and ^or 1=1", 0);
        Checks.ruleFault("break 1=1 ^1=1", 0);
    }

    /**
     * Promise 5, Terms: "FACT: not FACT | [ TEST ] (these brackets are signs) | SUM SIGN SUM, SIGN one of < <= = >= >."
     */
    private static void factsAndSigns() {
        String[] signs = {"<", "<=", "=", ">=", ">"};
        // Of each sign whether it holds with 1, 2 and 3 on its left and 2 on its right.
        boolean[][] due = {{true, false, false}, {true, true, false}, {false, true, false}, {false, true, true}, {false, false, true}};
        for (int i = 0; i < signs.length; i++) {
            for (int left = 1; left <= 3; left++) {
                breaks(left + signs[i] + "2", due[i][left - 1]);
                breaks("not " + left + signs[i] + "2", !due[i][left - 1]);
                breaks("[" + left + signs[i] + "2]", due[i][left - 1]);
            }
        }
        breaks("[1=1 or 1=1] and 1=2", false);
        breaks("not 1=2 and 1=2", false);
        breaks("not [1=2 and 1=2]", true);
        breaks("not not 1=1", true);
        Checks.ruleFault("break [^]", 0);
        Checks.ruleFault("break [1=1^", 0);
        Checks.ruleFault("break 1=1^]", 0);
        Checks.ruleFault("break [1^]=1", 0);
        Checks.ruleFault("break not^", 0);
        Checks.ruleFault("break 1=^=1", 0);
        Checks.ruleFault("break 1=^<1", 0);
        Checks.ruleFault("break 1<^>1", 0);
        Checks.ruleFault("break 1^!=1", 0);
        Checks.ruleFault("break 1=1^=1", 0);
        Checks.ruleFault("break 1 ^1=1", 0);
        Checks.ruleFault("break force ^drop=1", 0);
    }

    /** Promise 5, Terms: "SUM: TERM { (+ or -) TERM }. TERM: VALUE { (* or / or %) VALUE }." */
    private static void sumsGoFromLeftToRight() {
        costs("50-20-5", 25);
        costs("50-20+5", 35);
        costs("2+3*4", 14);
        costs("2*3+4", 10);
        costs("100/7/2", 7);
        costs("100/7*2", 28);
        costs("100%7*9", 18);
        costs("60-2*3-4*5", 34);
        Checks.ruleFault("mark 1+^", 0);
        Checks.ruleFault("mark ^-1", 0);
        Checks.ruleFault("mark 1*^-1", 0);
        Checks.ruleFault("mark 1+^*1", 0);
        Checks.ruleFault("mark 1 ^1", 0);
        Checks.ruleFault("mark ^[1]", 0);
        Checks.ruleFault("mark ^(1)", 0);
    }

    /** Promise 5, Terms: "VALUE: NUMBER (1 to 5 digits, as far as digits go on) | WORD." */
    private static void numbersHaveOneToFiveDigits() {
        costs("7", 7);
        costs("00042", 42);
        costs("00000", 0);
        breaks("99999=99998+1", true);
        Checks.ruleFault("mark ^100000", 1);
        Checks.ruleFault("mark ^000000", 1);
        Checks.ruleFault("mark 1+^123456789012345678901234567890", 1);
        Checks.ruleFault("break 1=^4294967296", 1);
        Checks.ruleFault("mark 5 ^5", 0);
        costs("5+worth", 6);
        Checks.groundFault("ground ^000002 2", 1);
        Checks.groundFault("ground 00002 2;net ^4294967296", 1);
    }

    /**
     * Promise 5, Terms: "WORDS (small letters, as far as these go on) of a PERSON who falls and a THING: person, thing,
     * force, drop (of that step), step (1 and on), height (of the cell), hard, worth"
     */
    private static void wordsOfAStepAndAThing() {
        // Person 1 (soft 1) goes 9 6 5 2: thing 0 lies at step 1, thing 1 at step 3 (force 2, 2, 4).
        String text = "ground 4 2;row 9652;row 9999;person 7 0;person 0 1;thing 1 9 3 11;thing 3 0 4 12";
        String[] words = {"person", "thing", "force", "drop", "step", "height", "hard", "worth"};
        int[][] due = {{1, 1}, {0, 1}, {2, 4}, {3, 3}, {1, 3}, {6, 2}, {3, 4}, {11, 12}};
        for (int i = 0; i < words.length; i++) {
            for (int thing = 0; thing < 2; thing++) {
                String test = words[i] + "=" + due[i][thing];
                FallSchool s = Checks.school(text, "break thing=" + thing + " and " + test);
                Checks.is(test + " of thing " + thing, s.would(1, 4, 2), 1 << thing);
            }
        }
        Checks.ruleFault("mark ^forces", 0);
        Checks.ruleFault("mark ^forc", 0);
        Checks.ruleFault("mark ^forcedrop", 0);
        Checks.ruleFault("mark ^forcea", 0);
        Checks.ruleFault("mark ^forcez", 0);
        Checks.ruleFault("mark force^`", 0);
        Checks.ruleFault("mark force^{", 0);
        Checks.ruleFault("mark ^Force", 0);
        Checks.ruleFault("mark force^Drop", 0);
        Checks.ruleFault("break 1=1 ^andnot 1=1", 0);
        breaks("force=9and hard=1", true);
        breaks("1=1and1=1or1=2", true);
    }

    /** Promise 5, Terms: "own (1 if it is the PERSON's own, else 0)" */
    private static void wordOwn() {
        FallSchool s = Checks.school("ground 2 2;row 90;row 99;person 0 0;person 0 0;thing 1 0 30 1;thing 1 1 30 1;thing 1 9 30 1",
                "break own=1;break own>1");
        Checks.is("person 0's", s.would(0, 4, 2), 1);
        Checks.is("person 1's", s.would(1, 4, 2), 2);
        s.force(Checks.rule(s, "break own=0"));
        Checks.is("another's, and the school's", s.would(0, 4, 2), 6);
    }

    /** Promise 5, Terms: "broken (THINGS that broke in that fall ahead of it)" */
    private static void wordBroken() {
        FallSchool s = Checks.school("ground 3 2;row 950;row 999;person 0 0;person 0 0;thing 1 9 30 1;thing 1 9 30 1"
                + ";thing 2 9 30 1", "break 1=1;mark 10+broken");
        Checks.is("0, 1 and, a cell on, 2", s.would(0, 4, 0), 67);
        s.force(Checks.rule(s, "break broken=0"));
        Checks.is("only the first breaks", s.fall(0, 4), 99);
        Checks.is("what broke in another fall doesn't count", s.would(1, 4, 2), 2);
    }

    /** Promise 5, Terms: "soft, people (others in that cell)." */
    private static void wordsSoftAndPeople() {
        String rule = "break 1=1;mark 10*soft+people";
        Checks.is("soft 0 and alone", Checks.school(PIT, rule).would(0, 4, 0), 100);
        String text = "ground 2 2;row 90;row 99;person 0 9;thing 1 9 1 1;person 1 0;person 1 0;person 3 0;person 0 0";
        Checks.is("soft 9 and two others; who falls and who is elsewhere don't count", Checks.school(text, rule).would(0, 4, 0), 8);
    }

    /** Promise 5, Terms: "/ is towards 0, % its rest, both 0 by 0" */
    private static void dividing() {
        costs("7/2", 3);
        costs("7%2", 1);
        costs("7/7", 1);
        costs("6/7", 0);
        costs("6%7", 6);
        costs("60/0", 0);
        costs("60%0", 0);
        costs("5+60/0*2+60%0", 5);
        costs("7/own", 0);
        // Below 0 a sum's term can only come by going round: -2^63 / 3 is -3074457345618258602, its rest -2.
        breaks(TWO_TO_63 + "/3*3-" + TWO_TO_63 + "=2", true);
        breaks(TWO_TO_63 + "%3+2=0", true);
        breaks(TWO_TO_63 + "/0=0", true);
        breaks(TWO_TO_63 + "%0=0", true);
    }

    /** Promise 5, Terms: "all goes round in 64 bits." */
    private static void reckoningGoesRound() {
        breaks(TWO_TO_63 + "<0", true);
        breaks(TWO_TO_63 + "-1>0", true);
        breaks("0-" + TWO_TO_63 + "=" + TWO_TO_63, true);
        breaks("65536*65536*65536*65536=0", true);
        breaks("65536*65536>65535*65535", true);
        breaks("65536*65536*65536*65536+9=9", true);
        costs(TWO_TO_63 + "-1", 100);
        costs(TWO_TO_63, 0);
    }

    /** Promise 5, Terms: "Blanks (32) stand between as one likes (not within DIGITS)." */
    private static void blanksStandBetween() {
        FallSchool s = new FallSchool();
        Checks.is("many", Checks.ground(s, "   ground   2   2   ;   row   12   ;  net   3   "), 4);
        Checks.is("none", Checks.ground(s, "ground2 2;row12;person0 0;thing0 0 1 1;net3;lesson1;lesson1;after0 1"), 4);
        Checks.groundFault("ground 2 2;row 1^ 2", 0);
        Checks.groundFault("ground 2 2;row 12 ^3", 0);
        Checks.groundFault("ground ^22 2", 1);
        Checks.groundFault("^gro und 2 2", 0);
        Checks.groundFault("ground 2 2^\t", 0);
        Checks.groundFault("ground^\n2 2", 0);
        Checks.groundFault("ground 2 2^" + (char) 160, 0);
        Checks.groundFault("ground 2 2^" + (char) 0, 0);
        Checks.soundRule("  break   not   [   1   <=   2   ]   ;   mark   1   +   2   *   3   if   1   =   1   ");
        Checks.soundRule("break not[1<=2]and[1=1]or1=1;mark1+2*3if1=1");
        Checks.ruleFault("break 1< ^=2", 0);
        Checks.ruleFault("break 1> ^=2", 0);
        Checks.ruleFault("mark 1 ^2", 0);
        Checks.ruleFault("mark ^for ce", 0);
    }

    /** Promise 5, Terms: "[ and not lie within one another 10 deep at most" */
    private static void tenDeep() {
        Checks.soundRule("break " + "[".repeat(10) + "1=1" + "]".repeat(10));
        Checks.soundRule("break " + "not ".repeat(10) + "1=1");
        Checks.soundRule("break " + "not[".repeat(5) + "1=1" + "]".repeat(5));
        Checks.soundRule("mark 1 if " + "[".repeat(10) + "1=1" + "]".repeat(10) + " and " + "not ".repeat(10) + "1=1");
        Checks.ruleFault("break " + "[".repeat(10) + "^[1=1" + "]".repeat(11), 2);
        Checks.ruleFault("break " + "not ".repeat(10) + "^not 1=1", 2);
        Checks.ruleFault("break " + "not[".repeat(5) + "^not 1=1" + "]".repeat(5), 2);
        Checks.ruleFault("break " + "[not ".repeat(5) + "^[1=1", 2);
        Checks.ruleFault("mark 1 if [1=1] and " + "[".repeat(10) + "^[1=1", 2);
        // Ten deep, eight of them with an and and an or that wait: all are reckoned.
        breaks("1=2 or 1=1 and [".repeat(8) + "[[1=2 or 1+2*3=1+2*3" + "]".repeat(10), true);
        breaks("1=2 or 1=1 and [".repeat(8) + "[[1=2 or 1+2*3=1+2*4" + "]".repeat(10), false);
    }

    /** Promise 5, Terms: "at most 60 VALUES (of SUMS) and FACTS made of a SIGN, together." */
    private static void sixtyValuesAndFacts() {
        Checks.soundRule("mark 1" + "+1".repeat(59));
        Checks.soundRule("break 1=1" + " or 1=1".repeat(19));
        Checks.soundRule("mark 1;".repeat(11) + "mark 1" + "+1".repeat(48));
        Checks.soundRule("mark 1" + "*force".repeat(56) + " if not [ 1 = 1 ]");
        Checks.ruleFault("mark 1" + "+1".repeat(59) + "+^1", 3);
        Checks.ruleFault("mark 1" + "+1".repeat(59) + "-^soft", 3);
        Checks.ruleFault("break 1=1" + " or 1=1".repeat(19) + " or ^1=1", 3);
        Checks.ruleFault("mark 1" + "+1".repeat(58) + " if 1 ^>= 1", 3);
        Checks.ruleFault("mark 1" + "+1".repeat(57) + " if 1 = ^1", 3);
        Checks.ruleFault("mark 1;".repeat(11) + "mark 1" + "+1".repeat(48) + "+^1", 3);
        FallSchool s = Checks.school(PIT);
        for (int rule = 0; rule < 6; rule++) {
            Checks.is("each counts anew", Checks.rule(s, "mark " + rule + "+1".repeat(59)), rule);
            s.force(rule);
            Checks.is("all of it holds", s.would(0, 4, 0), 100 - 59 - rule);
        }
    }

    // ---- Terms I, faults

    /** Promise 4, Terms: "FAULTS, the first along the text, 1 + 8 * its place and" */
    private static void theFirstFaultAlongTheText() {
        Checks.groundFault("ground ^9 9;row", 1);
        Checks.groundFault("ground 2 2;net ^9;ground 2 2;x", 1);
        Checks.groundFault("ground 2 2;^x;net 9", 0);
        Checks.groundFault("ground 2 2;thing ^9 8 0 99", 1);
        Checks.groundFault("ground 2 2;^ground 9 9", 4);
        Checks.ruleFault("mark ^100000+x", 1);
        Checks.ruleFault("mark ^x+100000", 0);
        Checks.ruleFault("break " + "[".repeat(10) + "^[100000=1", 2);
        Checks.ruleFault("mark 1" + "+1".repeat(59) + "+^1 if " + "[".repeat(11), 3);
        Checks.is("at place 0", Checks.ground(new FallSchool(), "x"), -3);
    }

    /**
     * Promise 4, Terms: "0 a byte or WORD that can't stand there, or the end (behind the last byte; of DIGITS the first
     * place where one is missing)"
     */
    private static void bytesWordsAndEnds() {
        Checks.groundFault("^G", 0);
        Checks.groundFault("^grounds 2 2", 0);
        Checks.groundFault("^break 1=1", 0);
        Checks.groundFault("ground^", 0);
        Checks.groundFault("ground   ^", 0);
        Checks.groundFault("ground 2^", 0);
        Checks.groundFault("ground 2  ^", 0);
        Checks.groundFault("ground ^x", 0);
        Checks.groundFault("ground 2 2^x", 0);
        Checks.groundFault("ground 2 2;row^", 0);
        Checks.groundFault("ground 2 2;row  ^", 0);
        Checks.groundFault("ground 2 2;row ^;", 0);
        Checks.groundFault("ground 2 2;row 1^", 0);
        Checks.groundFault("ground 2 2;row 1^  ", 0);
        Checks.ruleFault("^x", 0);
        Checks.ruleFault("break [1=1  ^", 0);
        Checks.ruleFault("break 1=^", 0);
        Checks.ruleFault("mark 1+  ^", 0);
        Checks.ruleFault("mark 1^" + (char) 255, 0);
    }

    /** Promise 4, Terms: "1 a NUMBER of more digits, or not as told (a cell with a net; a second LESSON, if it is the first)" */
    private static void numbersNotAsTold() {
        Checks.groundFault("ground ^000002 2", 1);
        Checks.groundFault("ground 2 2;net 3;net ^3", 1);
        Checks.groundFault("ground 2 2;net 3;net ^00003", 1);
        Checks.groundFault("ground 2 2;lesson 1;after 0 ^0", 1);
        Checks.groundFault("ground 2 2;lesson 1;after  0   ^00000 ", 1);
        Checks.ruleFault("mark ^000001", 1);
    }

    /** Promise 5, Terms: "2 too deep (at the sign that opens, or the word not)" */
    private static void tooDeep() {
        Checks.ruleFault("break " + "[".repeat(10) + "   ^[   1=1", 2);
        Checks.ruleFault("break " + "[".repeat(10) + "   ^not 1=1", 2);
        Checks.ruleFault("break " + "not ".repeat(10) + "  ^[", 2);
        Checks.ruleFault("break " + "not ".repeat(10) + "^not", 2);
        Checks.ruleFault("break " + "[".repeat(10) + "^note=1", 0);
    }

    /** Promise 5, Terms: "3 one VALUE or FACT too many (at its first byte; of a FACT at its SIGN)" */
    private static void oneValueOrFactTooMany() {
        Checks.ruleFault("mark 1" + "+1".repeat(59) + "+  ^12345  ", 3);
        Checks.ruleFault("mark 1" + "+1".repeat(59) + "+  ^people  ", 3);
        Checks.ruleFault("mark 1" + "+1".repeat(58) + " if worth  ^<= hard", 3);
        Checks.ruleFault("mark 1" + "+1".repeat(58) + " if worth  ^= ", 3);
        Checks.ruleFault("mark 1" + "+1".repeat(58) + " if worth  ^", 0);
    }

    /**
     * Promise 4, Terms: "4 one CLAUSE too many, a second ground, another CLAUSE ahead of it, a row, PERSON, THING, NET,
     * LESSON, AFTER too many (at its first byte)"
     */
    private static void oneClauseTooMany() {
        Checks.groundFault(fortyClauses() + ";  ^thing", 4);
        Checks.groundFault("ground 2 2;  ^ground", 4);
        Checks.groundFault("  ^person", 4);
        Checks.groundFault("ground 2 2;row 12;row 12;  ^row", 4);
        Checks.groundFault("ground 2 2" + ";person 0 0".repeat(5) + ";  ^person", 4);
        Checks.groundFault("ground 2 2" + ";thing 0 9 1 1".repeat(8) + ";  ^thing", 4);
        Checks.groundFault("ground 2 2;net 0;net 1;net 2;net 3;  ^net 0", 4);
        Checks.groundFault("ground 2 2" + ";lesson 1".repeat(8) + ";  ^lesson", 4);
        Checks.groundFault("ground 2 2;lesson 1;lesson 1" + ";after 0 1".repeat(10) + ";  ^after", 4);
        Checks.ruleFault("mark 1;".repeat(12) + "  ^break", 4);
    }

    /** Promise 4, Terms: "a digit too many: 0 at it." */
    private static void aDigitTooMany() {
        Checks.groundFault("ground 2 2;row 12^3", 0);
        Checks.groundFault("ground 2 2;row 12^34", 0);
        Checks.groundFault("ground 2 2;row 12  ^3", 0);
        Checks.groundFault("ground 8 2;row 12345678^9", 0);
    }

    /** Promise 4, Terms: "Of one place the least." */
    private static void ofOnePlaceTheLeast() {
        Checks.groundFault(fortyClauses() + ";^things", 0);
        Checks.groundFault(fortyClauses() + ";^", 0);
        Checks.groundFault(fortyClauses() + ";^row", 4);
        Checks.groundFault("^rows", 0);
        Checks.ruleFault("mark 1;".repeat(12) + "^marks", 0);
        Checks.ruleFault("mark 1;".repeat(12) + "^", 0);
        Checks.ruleFault("mark 1" + "+1".repeat(59) + "+^100000", 1);
        Checks.ruleFault("mark 1" + "+1".repeat(59) + "+^nothing", 0);
        Checks.ruleFault("mark 1" + "+1".repeat(59) + "+^", 0);
    }

    /** Whether thing 0 breaks by that test. */
    private static void breaks(String test, boolean due) {
        FallSchool s = Checks.school(PIT, "break " + test);
        Checks.is("break " + test, s.would(0, 4, 2), due ? 1 : 0);
    }

    /** How far below 100 a mark is by that sum. */
    private static void costs(String sum, int due) {
        FallSchool s = Checks.school(PIT, "mark " + sum);
        Checks.is("mark " + sum, s.would(0, 4, 0), 100 - due);
    }
}
