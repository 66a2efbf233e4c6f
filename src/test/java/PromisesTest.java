import java.util.ArrayList;
import java.util.List;

/**
 * Each promise, with ordinary inputs, the edges that the document names, and wrong inputs. What is due was
 * worked out by hand from the document.
 */
public final class PromisesTest {
    /*
     * Heights 9 6 3 1 over 7 5 2 0: cell 0 leads along 1, 2, 3 to the floor 7; cell 4 along 5 and 6. Person 0
     * (soft 1) is in 0, person 1 (soft 0) in 7; thing 0 is the school's, thing 1 person 0's, thing 2 person 1's.
     */
    private static final String SLOPE = "ground 4 2;row 9631;row 7520;person 0 1;person 7 0"
            + ";thing 2 9 4 10;thing 3 0 5 20;thing 5 1 3 7;net 6";

    public static void main(String[] args) {
        Checks.runAll(PromisesTest.class);
    }

    /** Promise 1. */
    private static void newObject() {
        FallSchool s = new FallSchool();
        int[] due = {0, 0, 0, 0, 0, 0, 0, 0, -1, 0, 0, 0, 0, 0};
        for (int what = 0; what < due.length; what++) {
            Checks.is("a new object's count " + what, s.count(what), due[what]);
        }
        Checks.is("NONE", FallSchool.NONE, -1);
        Checks.is("another object's ground is its own", new FallSchool().cell(0, 0), -2);
    }

    /** Promises 2 and 3. */
    private static void feedAndEnd() {
        FallSchool s = new FallSchool();
        for (int i = 1; i <= 20; i++) {
            Checks.is("feed " + i, s.feed(0x20202020, 0x20202020, 0x20202020, 0x20202020, 0x20202020), 20 * i);
        }
        Checks.is("a full tape takes no more", s.feed(1, 2, 3, 4, 5), -1);
        Checks.is("and stays", s.count(13), 400);
        Checks.is("end below 0", s.end(-1), -1);
        Checks.is("end far below 0", s.end(Checks.LEAST), -1);
        Checks.is("end behind the tape", s.end(401), -1);
        Checks.is("end far behind it", s.end(Checks.MOST), -1);
        Checks.is("nothing happened", s.count(13), 400);
        Checks.is("end at the end", s.end(400), 400);
        Checks.is("end", s.end(381), 381);
        Checks.is("381 and 20 are above 400", s.feed(1, 2, 3, 4, 5), -1);
        Checks.is("and it stays", s.count(13), 381);
        Checks.is("end 380", s.end(380), 380);
        Checks.is("380 and 20 are not", s.feed(0x20202020, 0x20202020, 0x20202020, 0x20202020, 0x20202078), 400);
        Checks.is("the lowest byte is the last one", s.ground(), -2 - (1 + 8 * 399));
        Checks.is("end 0", s.end(0), 0);
        Checks.is("end of an empty tape", s.end(1), -1);
        Checks.is("bytes above 127", s.feed(0xff67726f, 0x756e6420, 0x32203200, 0, 0), 20);
        Checks.is("are no letters", s.rule(), -3);
        Checks.is("the highest byte is the first one", s.feed(0x67726f75, 0x6e642032, 0x20320000, 0, 0), 20);
        Checks.is("end of a ground", s.end(10), 10);
        Checks.is("ground", s.ground(), 4);
    }

    /** Promise 4. */
    private static void grounds() {
        FallSchool s = Checks.school(SLOPE);
        Checks.is("rule", Checks.rule(s, "mark 1"), 0);
        s.force(0);
        s.seed(77);
        s.fall(0, 4);
        s.clue(0, true);
        Checks.is("a ground with a fault", Checks.ground(s, "ground 2 2;x"), -2 - (1 + 8 * 11));
        Checks.is("all stays: columns", s.count(0), 4);
        Checks.is("all stays: broken", s.count(9), 3);
        Checks.is("all stays: clues", s.count(10), 1);
        Checks.is("all stays: acts", s.count(11), 1);
        Checks.is("the tape is empty", s.count(13), 0);
        Checks.is("a fault at the end of an empty tape", s.ground(), -3);
        Checks.is("a ground in place of it", Checks.ground(s, "ground 8 6;person 47 9"), 48);
        int[] due = {8, 6, 1, 0, 0, 0, 0, 1, 0, 0, 0, 0, 77, 0};
        for (int what = 0; what < due.length; what++) {
            Checks.is("the new ground's count " + what, s.count(what), due[what]);
        }
        Checks.is("rows not told are 0", s.cell(47, 0), 0);
        Checks.is("nothing to undo", s.undo(), -2);
        Checks.is("its person", s.person(0, 0), 47);
        Checks.is("the same ground again has whole things", Checks.ground(s, SLOPE), 8);
        Checks.is("whole", s.count(9), 0);
        FallSchool half = Checks.school("ground 2 3;row 12;row 34");
        Checks.is("the first row", half.cell(1, 0), 2);
        Checks.is("the second row", half.cell(2, 0), 3);
        Checks.is("the row not told", half.cell(5, 0), 0);
    }

    /** Promise 5. */
    private static void rules() {
        FallSchool s = new FallSchool();
        Checks.is("a fault", Checks.rule(s, "mark"), -2 - (1 + 8 * 4));
        for (int i = 0; i < 6; i++) {
            Checks.is("rule " + i, Checks.rule(s, "mark " + i), i);
            Checks.is("the tape is empty", s.count(13), 0);
        }
        Checks.is("a seventh", Checks.rule(s, "mark 6"), -1);
        Checks.is("nothing happens to the tape", s.count(13), 6);
        Checks.is("a seventh with a fault", Checks.rule(s, "mark"), -1);
        Checks.is("rules", s.count(7), 6);
        Checks.is("none is in force", s.count(8), -1);
    }

    /** The words of a rule, one by one: a fall of person 1 down 8 7 4 0, with thing 1 in the last cell. */
    private static void ruleWords() {
        String text = "ground 4 2;row 8740;row 9999;person 3 0;person 0 1;person 3 5;thing 2 9 30 1;thing 3 1 7 33";
        String[] words = {"person", "thing", "force", "drop", "step", "height", "hard", "worth", "own", "broken",
            "soft", "people"};
        int[] due = {1, 1, 5, 4, 3, 0, 7, 33, 1, 1, 1, 2};
        for (int i = 0; i < words.length; i++) {
            FallSchool s = Checks.school(text);
            s.force(Checks.rule(s, "break 1=1;mark " + words[i] + " if thing=1"));
            Checks.is("the word " + words[i], s.would(1, 4, 0), 100 - due[i]);
        }
    }

    private static void ruleReckoning() {
        sum("7/2", 3);
        sum("50+7%4", 53);
        sum("50-7*2", 36);
        sum("50-20-5", 25);
        sum("50-20+5", 35);
        sum("2+3*4", 14);
        sum("2*3+4", 10);
        sum("2+3*4-5*2", 4);
        sum("100/7/2", 7);
        sum("100%7*9", 18);
        sum("60/0", 0);
        sum("60+60/0", 60);
        sum("60+60%0", 60);
        sum("0-7", 0);
        sum("50+0-7/2", 47);
        sum("65536*65536*65536*65536+9", 9);
        sum("32768*65536*65536*65536", 0);
        sum("101", 100);
        sum("99999*99999*99999", 100);
        sum("00042", 42);
        holds("1<2", true);
        holds("2<2", false);
        holds("2<=2", true);
        holds("3<=2", false);
        holds("2=2", true);
        holds("2=3", false);
        holds("2>=2", true);
        holds("1>=2", false);
        holds("3>2", true);
        holds("2>2", false);
        holds("1=2 or 1=1 and 1=1", true);
        holds("1=1 or 1=1 and 1=2", true);
        holds("[1=1 or 1=1] and 1=2", false);
        holds("1=2 and 1=1 or 1=1", true);
        holds("1=2 and [1=1 or 1=1]", false);
        holds("not 1=2 and 1=2", false);
        holds("not [1=2 and 1=2]", true);
        holds("not not 1=1", true);
        holds("not 1=1 or 1=1", true);
        holds("0-1<0", true);
        holds("0-7 = 0-7/1", true);
        holds("2*3+4=10 and 10=2*3+4", true);
        // 2^63 goes round to the least number there is.
        holds("32768*65536*65536*65536<0", true);
        holds("32768*65536*65536*65536-1>0", true);
    }

    private static void sum(String sum, int due) {
        FallSchool s = Checks.school("ground 2 2;row 50;row 99;person 0 0;thing 1 9 1 1");
        s.force(Checks.rule(s, "mark " + sum));
        Checks.is("100 less " + sum, s.would(0, 4, 0), 100 - due);
    }

    private static void holds(String test, boolean due) {
        FallSchool s = Checks.school("ground 2 2;row 50;row 99;person 0 0;thing 1 9 30 1");
        s.force(Checks.rule(s, "break " + test));
        Checks.is("break " + test, s.would(0, 4, 2), due ? 1 : 0);
    }

    /** Promise 6. */
    private static void forces() {
        FallSchool s = new FallSchool();
        Checks.is("no such rule", s.force(0), -2);
        Checks.is("none", s.force(-1), -1);
        Checks.rule(s, "mark 1");
        Checks.rule(s, "mark 2");
        Checks.is("none was", s.force(1), -1);
        Checks.is("1 was", s.force(0), 1);
        Checks.is("no rule 2", s.force(2), -2);
        Checks.is("no rule -2", s.force(-2), -2);
        Checks.is("no rule that low", s.force(Checks.LEAST), -2);
        Checks.is("no rule that high", s.force(Checks.MOST), -2);
        Checks.is("0 still is", s.count(8), 0);
        Checks.is("0 was", s.force(-1), 0);
        Checks.is("none is", s.count(8), -1);
    }

    /** Promise 7. */
    private static void cells() {
        FallSchool s = Checks.school(SLOPE);
        int[][] due = {
            {9, 1, 0, 1, 0, 7, 4}, {6, 2, 0, 0, 0, 7, 3}, {3, 3, 0, 0, 1, 7, 2}, {1, 7, 0, 0, 2, 7, 1},
            {7, 5, 0, 0, 0, 7, 3}, {5, 6, 0, 0, 4, 7, 2}, {2, 7, 1, 0, 0, 7, 1}, {0, -1, 0, 2, 0, 7, 0}};
        for (int cell = 0; cell < due.length; cell++) {
            for (int what = 0; what < 7; what++) {
                Checks.is("cell " + cell + ", " + what, s.cell(cell, what), due[cell][what]);
            }
        }
        for (int bad : new int[] {-1, 8, Checks.LEAST, Checks.MOST}) {
            Checks.is("no cell " + bad, s.cell(bad, 0), -2);
        }
        for (int bad : new int[] {-1, 7, Checks.LEAST, Checks.MOST}) {
            Checks.is("no such thing of a cell: " + bad, s.cell(0, bad), -2);
        }
        s.fall(0, 4);
        Checks.is("broken things stay in their cells", s.cell(2, 4), 1);
        Checks.is("both are at the floor", s.cell(7, 3), 3);
        FallSchool even = Checks.school("ground 3 3;row 919;row 191;row 919");
        Checks.is("of several the least side: up", even.cell(4, 1), 1);
        FallSchool flat = Checks.school("ground 3 3;row 999;row 191;row 919");
        Checks.is("of several the least side: right", flat.cell(4, 1), 5);
        FallSchool level = Checks.school("ground 2 2;row 55;row 55");
        Checks.is("a level cell is a floor", level.cell(0, 1), -1);
        Checks.is("and its own end", level.cell(2, 5), 2);
        FallSchool lowest = Checks.school("ground 3 3;row 939;row 494;row 919");
        Checks.is("the lowest, not the first", lowest.cell(4, 1), 7);
        FallSchool left = Checks.school("ground 2 2;row 91;row 19");
        Checks.is("a row's end has no right side", left.cell(1, 1), -1);
    }

    /** Promises 8 and 9. */
    private static void peopleAndThings() {
        FallSchool s = Checks.school(SLOPE);
        Checks.is("cell of person 0", s.person(0, 0), 0);
        Checks.is("soft of person 0", s.person(0, 1), 1);
        Checks.is("cell of person 1", s.person(1, 0), 7);
        Checks.is("soft of person 1", s.person(1, 1), 0);
        for (int bad : new int[] {-1, 2, Checks.LEAST, Checks.MOST}) {
            Checks.is("no person " + bad, s.person(bad, 0), -1);
            Checks.is("no such thing of a person: " + bad, s.person(0, bad), -1);
        }
        int[][] due = {{2, 9, 4, 10, 0}, {3, 0, 5, 20, 0}, {5, 1, 3, 7, 0}};
        for (int thing = 0; thing < 3; thing++) {
            for (int what = 0; what < 5; what++) {
                Checks.is("thing " + thing + ", " + what, s.thing(thing, what), due[thing][what]);
            }
        }
        for (int bad : new int[] {-1, 3, Checks.LEAST, Checks.MOST}) {
            Checks.is("no thing " + bad, s.thing(bad, 0), -1);
        }
        for (int bad : new int[] {-1, 5, Checks.LEAST, Checks.MOST}) {
            Checks.is("no such thing of a thing: " + bad, s.thing(0, bad), -1);
        }
        s.fall(0, 4);
        Checks.is("broken", s.thing(1, 4), 1);
        Checks.is("whole", s.thing(2, 4), 0);
    }

    /** Promise 10. */
    private static void falls() {
        FallSchool s = Checks.school(SLOPE);
        for (int bad : new int[] {-1, 2, Checks.LEAST, Checks.MOST}) {
            Checks.is("no person falls: " + bad, s.fall(bad, 0), -1);
        }
        for (int bad : new int[] {-1, 5, Checks.LEAST, Checks.MOST}) {
            Checks.is("no side: " + bad, s.fall(0, bad), -1);
        }
        Checks.is("nothing happened", s.count(11), 0);
        Checks.is("a fall into the net", s.fall(0, 2), 100);
        Checks.is("ends there", s.person(0, 0), 6);
        Checks.is("and breaks nothing", s.count(9), 0);
        Checks.is("from the net it goes on", s.fall(0, 4), 100);
        Checks.is("to the floor", s.person(0, 0), 7);
        Checks.is("on the floor it never begins", s.fall(0, 4), 100);
        Checks.is("but is an act", s.count(11), 3);
        FallSchool other = Checks.school(SLOPE);
        Checks.is("a fall that breaks", other.fall(0, 4), 90);
        Checks.is("what it breaks", other.count(9), 3);
        Checks.is("where it ends", other.person(0, 0), 7);
        other.walk(0, 3);
        Checks.is("walked", other.person(0, 0), 7);
        FallSchool again = Checks.school("ground 2 2;row 90;row 99;person 0 0;person 0 0;thing 1 9 9 60;thing 1 1 9 60");
        Checks.is("both break: 0 at least", again.fall(0, 4), 0);
        Checks.is("what is broken doesn't break again", again.fall(1, 4), 100);
        FallSchool upper = Checks.school("ground 2 2;row 19;row 55;person 1 0;thing 0 9 8 1");
        Checks.is("left", upper.fall(0, 3), 99);
        FallSchool soft = Checks.school("ground 2 2;row 90;row 99;person 0 9;thing 1 9 1 5");
        Checks.is("soft: no force", soft.would(0, 4, 1), 0);
        Checks.is("soft: nothing breaks", soft.fall(0, 4), 100);
        FallSchool softer = Checks.school("ground 4 2;row 7650;row 9999;person 0 3;thing 3 9 2 5;thing 2 9 1 5");
        Checks.is("force is 0 at least at each step", softer.would(0, 4, 1), 2);
        Checks.is("and breaks by it", softer.fall(0, 4), 95);
    }

    private static void fallsByRule() {
        FallSchool s = Checks.school(SLOPE);
        s.force(Checks.rule(s, "break step=3;break own=0 and force>100"));
        Checks.is("by some break test", s.would(0, 4, 2), 2);
        s.force(Checks.rule(s, "mark 5"));
        Checks.is("a rule without break: force is hard or more", s.would(0, 4, 2), 3);
        Checks.is("its mark", s.would(0, 4, 0), 90);
        s.force(Checks.rule(s, "break broken=0"));
        Checks.is("what broke ahead", s.would(0, 4, 2), 1);
        Checks.is("a rule without mark: the worth of others'", s.would(0, 4, 0), 90);
        s.force(Checks.rule(s, "break 1=1"));
        Checks.is("a net keeps all whole", s.would(0, 2, 2), 4);
        FallSchool net = Checks.school("ground 2 2;row 90;row 99;person 0 0;thing 1 9 1 5;net 1");
        net.force(Checks.rule(net, "break 1=1"));
        Checks.is("in the net's own cell too", net.would(0, 4, 2), 0);
        FallSchool crowd = Checks.school("ground 2 2;row 90;row 99;person 0 0;person 1 0;person 1 0;thing 1 9 9 5");
        Checks.is("half of 9, once, downwards", crowd.would(0, 4, 1), 4);
        Checks.is("but behind the breaking", crowd.would(0, 4, 2), 1);
    }

    private static void marksByRule() {
        FallSchool s = Checks.school("ground 2 2;row 90;row 99;person 0 0;thing 1 9 1 7;thing 1 0 1 8;thing 1 9 1 9");
        s.force(Checks.rule(s, "mark 30 if thing=1;mark 3 if thing>0;mark 60 if thing=1"));
        Checks.is("the first that holds; without one 0", s.would(0, 4, 0), 67);
        s.force(Checks.rule(s, "mark 0-5 if thing=0;mark 250 if thing=1"));
        Checks.is("held to 0 to 100", s.would(0, 4, 0), 0);
        s.force(Checks.rule(s, "mark 0-5;mark 10"));
        Checks.is("held to 0", s.would(0, 4, 0), 100);
        s.force(Checks.rule(s, "mark broken*10"));
        Checks.is("words as when it broke", s.would(0, 4, 0), 70);
        s.force(Checks.rule(s, "mark own*50"));
        Checks.is("their own too", s.would(0, 4, 0), 50);
        s.force(Checks.rule(s, "mark 60"));
        Checks.is("0 at least", s.fall(0, 4), 0);
    }

    /** Promise 11. */
    private static void walks() {
        FallSchool s = Checks.school("ground 3 2;row 213;row 109;person 0 0");
        Checks.is("no cell above", s.walk(0, 0), -1);
        Checks.is("no cell to the left", s.walk(0, 3), -1);
        Checks.is("one lower", s.walk(0, 1), 1);
        Checks.is("two higher", s.walk(0, 1), -1);
        Checks.is("one lower, down", s.walk(0, 2), 4);
        Checks.is("nine higher", s.walk(0, 1), -1);
        Checks.is("no cell below", s.walk(0, 2), -1);
        Checks.is("left", s.walk(0, 3), 3);
        Checks.is("up, one higher", s.walk(0, 0), 0);
        for (int bad : new int[] {-1, 4, Checks.LEAST, Checks.MOST}) {
            Checks.is("no side " + bad, s.walk(0, bad), -1);
        }
        for (int bad : new int[] {-1, 1, Checks.LEAST, Checks.MOST}) {
            Checks.is("no person " + bad, s.walk(bad, 1), -1);
        }
        Checks.is("four acts", s.count(11), 4);
        Checks.is("where they are", s.person(0, 0), 0);
        FallSchool level = Checks.school("ground 2 2;row 55;row 57;person 1 0");
        Checks.is("level", level.walk(0, 3), 0);
        Checks.is("level, down", level.walk(0, 2), 2);
        Checks.is("two higher", level.walk(0, 1), -1);
        FallSchool edge = Checks.school("ground 2 2;person 1 0");
        Checks.is("a row's end has no right side", edge.walk(0, 1), -1);
        Checks.is("nor the next row's begin a left one", Checks.school("ground 2 2;person 2 0").walk(0, 3), -1);
    }

    /** Promise 12. */
    private static void puts() {
        FallSchool s = Checks.school(SLOPE);
        Checks.is("put", s.put(0, 7), 2);
        Checks.is("it is there", s.thing(0, 0), 7);
        Checks.is("bits", s.cell(7, 4), 1);
        Checks.is("the same cell", s.put(0, 7), -1);
        for (int bad : new int[] {-1, 8, Checks.LEAST, Checks.MOST}) {
            Checks.is("no cell " + bad, s.put(0, bad), -1);
        }
        for (int bad : new int[] {-1, 3, Checks.LEAST, Checks.MOST}) {
            Checks.is("no thing " + bad, s.put(bad, 0), -1);
        }
        Checks.is("one act", s.count(11), 1);
        Checks.is("it is touched where it is now", s.would(0, 4, 2), 3);
        s.fall(0, 4);
        Checks.is("a broken one", s.put(1, 0), -1);
        Checks.is("into a net's cell", s.put(2, 6), 5);
        Checks.is("nothing breaks there", s.would(1, 4, 2), 0);
    }

    /** Promise 13. */
    private static void mends() {
        FallSchool s = Checks.school(SLOPE);
        Checks.is("a whole one", s.mend(0), false);
        s.fall(0, 4);
        Checks.is("a broken one", s.mend(1), true);
        Checks.is("it is whole", s.thing(1, 4), 0);
        Checks.is("the other one is not", s.count(9), 1);
        Checks.is("whole again", s.mend(1), false);
        for (int bad : new int[] {-1, 3, Checks.LEAST, Checks.MOST, 32}) {
            Checks.is("no thing " + bad, s.mend(bad), false);
        }
        Checks.is("two acts", s.count(11), 2);
        Checks.is("it can be put now", s.put(1, 0), 3);
    }

    /** Promise 14. */
    private static void undoes() {
        FallSchool s = Checks.school(SLOPE);
        Checks.is("none", s.undo(), -2);
        s.fall(0, 4);
        s.mend(0);
        s.put(0, 1);
        s.fall(0, 4);
        s.walk(0, 0);
        Checks.is("the walk", s.undo(), 4);
        Checks.is("back at the floor", s.person(0, 0), 7);
        Checks.is("the fall that never began", s.undo(), 3);
        Checks.is("the put", s.undo(), 2);
        Checks.is("where it was", s.thing(0, 0), 2);
        Checks.is("the mend", s.undo(), 1);
        Checks.is("broken again", s.count(9), 3);
        s.seed(5);
        s.clue(0, true);
        Checks.is("acts alone can be undone", s.count(11), 1);
        Checks.is("the fall", s.undo(), 0);
        Checks.is("all whole", s.count(9), 0);
        Checks.is("where they were", s.person(0, 0), 0);
        Checks.is("none more", s.undo(), -2);
        Checks.is("x stays", s.count(12), 5);
        Checks.is("clues stay", s.count(10), 1);
        FallSchool walker = Checks.school("ground 2 2;person 0 0");
        for (int i = 0; i < 25; i++) {
            walker.walk(0, i % 2 == 0 ? 1 : 3);
        }
        Checks.is("the last 20", walker.count(11), 20);
        Checks.is("they are in 1", walker.person(0, 0), 1);
        for (int i = 19; i >= 0; i--) {
            Checks.is("undo to " + i, walker.undo(), i);
            Checks.is("where they are then", walker.person(0, 0), (5 + i) % 2);
        }
        Checks.is("no more", walker.undo(), -2);
        Checks.is("five walks stay", walker.person(0, 0), 1);
    }

    /** Acts of all kinds, more than can be undone; an image of them, gone back to behind others. */
    private static void manyActsUndone() {
        FallSchool s = Checks.school("ground 3 2;row 210;row 333;person 0 0;person 3 0;thing 2 9 1 5;thing 1 9 1 6;thing 0 9 1 7");
        List<String> before = new ArrayList<>();
        before.add(places(s));
        for (int act = 0; act < 1000 && before.size() < 25; act++) {
            if (tryAct(s, act)) {
                before.add(places(s));
            }
        }
        Checks.is("so many acts", before.size(), 25);
        before.remove(24);
        s.image(0);
        for (int i = 0; i < 40; i++) {
            tryAct(s, 7 * i + 3);
        }
        s.back(0);
        for (int i = 19; i >= 0; i--) {
            Checks.is("undo of many, " + i, s.undo(), i);
            String due = before.get(before.size() - 20 + i);
            String got = places(s);
            Checks.is("all as it was: " + due + ", not " + got, got.equals(due), true);
        }
        Checks.is("the 21st can't be undone", s.undo(), -2);
    }

    private static boolean tryAct(FallSchool s, int act) {
        int person = act % 2;
        int thing = act % 3;
        return switch (act % 4) {
            case 0 -> s.fall(person, act % 5) >= 0;
            case 1 -> s.put(thing, act % 6) >= 0;
            case 2 -> s.walk(act / 4 % 2, act / 8 % 4) >= 0;
            default -> s.mend(thing);
        };
    }

    private static String places(FallSchool s) {
        return s.person(0, 0) + " " + s.person(1, 0) + ", " + s.thing(0, 0) + " " + s.thing(1, 0) + " " + s.thing(2, 0)
                + ", " + s.count(9);
    }

    /** Promise 15. */
    private static void woulds() {
        FallSchool s = Checks.school(SLOPE);
        int[] straight = {90, 2, 3, 7, 4};
        int[] down = {100, 0, 0, 6, 3};
        for (int what = 0; what < 5; what++) {
            Checks.is("lean to none, " + what, s.would(0, 4, what), straight[what]);
            Checks.is("lean up, where no cell is, " + what, s.would(0, 0, what), straight[what]);
            Checks.is("lean right, " + what, s.would(0, 1, what), straight[what]);
            Checks.is("lean left, where no cell is, " + what, s.would(0, 3, what), straight[what]);
            Checks.is("lean down, " + what, s.would(0, 2, what), down[what]);
        }
        int[] floor = {100, 0, 0, 7, 0};
        for (int what = 0; what < 5; what++) {
            Checks.is("on a floor, " + what, s.would(1, 0, what), floor[what]);
        }
        for (int bad : new int[] {-1, 5, Checks.LEAST, Checks.MOST}) {
            Checks.is("no side " + bad, s.would(0, bad, 0), -1);
            Checks.is("no such thing of a fall: " + bad, s.would(0, 0, bad), -1);
        }
        for (int bad : new int[] {-1, 2, Checks.LEAST, Checks.MOST}) {
            Checks.is("no person " + bad, s.would(bad, 0, 0), -1);
        }
        Checks.is("nothing changed", s.count(9) + s.count(11) + s.person(0, 0), 0);
        s.fall(0, 4);
        s.undo();
        s.put(2, 1);
        Checks.is("a thing put in the way, hard 3 against 2", s.would(0, 4, 2), 3);
    }

    /** Promise 16. */
    private static void leans() {
        FallSchool s = Checks.school(SLOPE);
        Checks.is("the best mark", s.lean(0), 2);
        Checks.is("all alike: the least", s.lean(1), 0);
        for (int bad : new int[] {-1, 2, Checks.LEAST, Checks.MOST}) {
            Checks.is("no person " + bad, s.lean(bad), -1);
        }
        FallSchool hurt = Checks.school("ground 3 3;row 999;row 292;row 959;person 4 0");
        Checks.is("of one mark the least hurt", hurt.lean(0), 2);
        FallSchool mark = Checks.school("ground 3 3;row 999;row 292;row 959;person 4 0;thing 7 9 1 1;thing 5 9 1 1");
        Checks.is("the mark comes first", mark.lean(0), 3);
    }

    /** Promise 17. */
    private static void ways() {
        FallSchool s = Checks.school(SLOPE);
        Checks.is("worth", s.way(0, -1), 0);
        Checks.is("steps", s.way(0, -2), 3);
        Checks.is("first of two ways", s.way(0, 0), 1);
        Checks.is("then down", s.way(0, 1), 2);
        Checks.is("then right, into the net", s.way(0, 2), 1);
        Checks.is("no more", s.way(0, 3), -2);
        Checks.is("far more", s.way(0, Checks.MOST), -2);
        Checks.is("no such", s.way(0, -3), -3);
        Checks.is("no such either", s.way(0, Checks.LEAST), -3);
        for (int bad : new int[] {-1, 2, Checks.LEAST, Checks.MOST}) {
            Checks.is("no person " + bad, s.way(bad, -1), -3);
        }
        Checks.is("on a floor: worth", s.way(1, -1), 0);
        Checks.is("on a floor: steps", s.way(1, -2), 0);
        Checks.is("on a floor: no side", s.way(1, 0), -2);
        s.put(2, 4);
        s.put(0, 5);
        Checks.is("a thing on each way, too hard for both", s.way(0, -1), 0);
        FallSchool worth = Checks.school("ground 3 2;row 940;row 820;person 0 0;thing 1 9 1 20;thing 3 9 1 11;thing 2 9 1 3"
                + ";thing 4 0 1 60");
        Checks.is("least worth: down, right, right", worth.way(0, -1), 11);
        Checks.is("its steps", worth.way(0, -2), 3);
        Checks.is("its first side", worth.way(0, 0), 2);
        Checks.is("its last side", worth.way(0, 2), 1);
        FallSchool fewest = Checks.school("ground 3 2;row 950;row 876;person 0 0");
        Checks.is("fewest steps", fewest.way(0, -2), 2);
        FallSchool broken = Checks.school("ground 2 2;row 90;row 99;person 0 0;thing 1 9 1 20");
        Checks.is("it would break", broken.way(0, -1), 20);
        broken.fall(0, 4);
        broken.undo();
        Checks.is("nothing changed", broken.way(0, -1), 20);
    }

    private static void waysByRule() {
        FallSchool s = Checks.school("ground 3 2;row 964;row 752;person 0 0;thing 1 9 30 1;thing 2 9 30 9;thing 3 9 30 5");
        s.force(Checks.rule(s, "break thing=0 or broken>0"));
        Checks.is("down breaks nothing", s.way(0, -1), 0);
        Checks.is("down", s.way(0, 0), 2);
        s.put(2, 1);
        s.put(0, 3);
        s.put(1, 4);
        Checks.is("right, right, down: thing 1 isn't on it", s.way(0, -1), 0);
        s.put(2, 5);
        s.force(Checks.rule(s, "break broken>0 or thing=0 or step=1"));
        Checks.is("right, right: only the last cell's thing is left, and nothing broke", s.way(0, -1), 0);
        Checks.is("right", s.way(0, 1), 1);
    }

    /** Promise 18. */
    private static void clues() {
        FallSchool s = Checks.school(SLOPE);
        for (int bad : new int[] {-2, 3, Checks.LEAST, Checks.MOST}) {
            Checks.is("no thing " + bad, s.clue(bad, true), -2);
        }
        for (int i = 1; i <= 8; i++) {
            Checks.is("clue " + i, s.clue(i % 3, i % 2 == 0), i);
        }
        Checks.is("a ninth", s.clue(0, true), -2);
        Checks.is("eight", s.count(10), 8);
        Checks.is("none", s.clue(-1, false), 0);
        Checks.is("none are there", s.count(10), 0);
        Checks.is("all origins again", s.from(0, 0), 40);
    }

    /** Promise 19. */
    private static void origins() {
        FallSchool s = Checks.school(SLOPE);
        Checks.is("without clues all", s.from(0, 0), 40);
        Checks.is("the first cell", s.from(0, 1), 0);
        Checks.is("the first side", s.from(0, 2), 0);
        s.clue(0, true);
        Checks.is("the school's thing broke", s.from(0, 0), 4);
        s.clue(1, false);
        Checks.is("but theirs did not", s.from(0, 0), 0);
        Checks.is("no cell", s.from(0, 1), -2);
        Checks.is("no side", s.from(0, 2), -2);
        s.clue(-1, true);
        s.clue(0, false);
        Checks.is("it did not", s.from(0, 0), 36);
        Checks.is("from the first cell", s.from(0, 1), 0);
        Checks.is("leaning down", s.from(0, 2), 2);
        s.fall(0, 4);
        Checks.is("all things whole", s.from(0, 0), 36);
        for (int bad : new int[] {-1, 3, Checks.LEAST, Checks.MOST}) {
            Checks.is("no such " + bad, s.from(0, bad), -1);
        }
        for (int bad : new int[] {-1, 2, Checks.LEAST, Checks.MOST}) {
            Checks.is("no person " + bad, s.from(bad, 0), -1);
        }
        s.put(2, 0);
        s.clue(-1, true);
        s.clue(2, true);
        Checks.is("where it is now nothing falls on it", s.from(0, 0), 0);
        FallSchool crowd = Checks.school("ground 4 2;row 9630;row 9999;person 0 0;person 1 0;thing 3 9 8 1");
        crowd.clue(0, true);
        Checks.is("person 1 halves what comes from 0, 1 and 5", crowd.from(0, 0), 10);
        Checks.is("so the first is 6", crowd.from(0, 1), 6);
        crowd.fall(1, 4);
        Checks.is("all others where they are now", crowd.from(0, 0), 20);
        Checks.is("so the first is 0", crowd.from(0, 1), 0);
    }

    /** Promise 20. */
    private static void shards() {
        FallSchool s = Checks.school(SLOPE);
        Checks.is("thing 0 parts 4 and 36, as thing 1", s.shard(0, 0), 0);
        Checks.is("36", s.shard(0, 1), 36);
        s.put(0, 0);
        Checks.is("thing 1 is left", s.shard(0, 0), 1);
        Checks.is("36 still", s.shard(0, 1), 36);
        s.clue(1, true);
        Checks.is("all alike: the least", s.shard(0, 0), 0);
        Checks.is("4", s.shard(0, 1), 4);
        s.clue(0, true);
        Checks.is("none to fall from", s.shard(0, 0), -2);
        Checks.is("none to fall from either", s.shard(0, 1), -2);
        for (int bad : new int[] {-1, 2, Checks.LEAST, Checks.MOST}) {
            Checks.is("no such " + bad, s.shard(0, bad), -1);
            Checks.is("no person " + bad, s.shard(bad, 0), -1);
        }
        FallSchool bare = Checks.school("ground 2 2;person 0 0");
        Checks.is("no thing", bare.shard(0, 0), -2);
        Checks.is("no thing either", bare.shard(0, 1), -2);
    }

    /** Promise 21. */
    private static void trays() {
        FallSchool s = Checks.school(SLOPE);
        Checks.is("one", s.trays(1, 0), 8);
        Checks.is("the first one", s.trays(1, 1), 0);
        Checks.is("no second", s.trays(1, 2), -2);
        Checks.is("two", s.trays(2, 0), 12);
        Checks.is("first", s.trays(2, 1), 0);
        Checks.is("second", s.trays(2, 2), 4);
        Checks.is("no third", s.trays(2, 3), -2);
        Checks.is("three", s.trays(3, 0), 0);
        for (int what = 1; what < 4; what++) {
            Checks.is("none", s.trays(3, what), -2);
        }
        FallSchool flat = Checks.school("ground 8 6");
        Checks.is("all of 48", flat.trays(3, 0), 48 * 47 * 46 / 6);
        Checks.is("the third", flat.trays(3, 3), 2);
        FallSchool last = Checks.school("ground 2 2;row 90;row 12");
        Checks.is("0 and 3 lead to 1, 2 is a floor: 0 2, 0 3, 1 2, 2 3", last.trays(2, 0), 4);
        Checks.is("0 2 3", last.trays(3, 0), 1);
        Checks.is("0", last.trays(3, 1), 0);
        Checks.is("2", last.trays(3, 2), 2);
        Checks.is("3", last.trays(3, 3), 3);
        for (int bad : new int[] {-1, 4, Checks.LEAST, Checks.MOST}) {
            Checks.is("no such " + bad, s.trays(1, bad), -1);
            Checks.is("not so many " + bad, s.trays(bad, 0), -1);
        }
        Checks.is("not 0", s.trays(0, 0), -1);
        Checks.is("no ground", new FallSchool().trays(1, 0), -1);
    }

    /** Promise 22. */
    private static void games() {
        FallSchool s = Checks.school(SLOPE);
        int[] due = {-2, 1, -2, 2, 1, -2, 1, -2};
        for (int cell = 0; cell < 8; cell++) {
            Checks.is("game from " + cell, s.game(cell, 0), due[cell] < 0 ? 0 : 1);
            Checks.is("side from " + cell, s.game(cell, 1), due[cell]);
        }
        FallSchool other = Checks.school("ground 2 2;row 21;row 00");
        Checks.is("the first side by which: down past a cell that wins", other.game(0, 1), 2);
        for (int bad : new int[] {-1, 2, Checks.LEAST, Checks.MOST}) {
            Checks.is("no such " + bad, s.game(0, bad), -1);
        }
        for (int bad : new int[] {-1, 8, Checks.LEAST, Checks.MOST}) {
            Checks.is("no cell " + bad, s.game(bad, 0), -1);
        }
        Checks.ground(s, "ground 2 2;row 99;row 98");
        Checks.is("a new ground's game", s.game(1, 1), 2);
    }

    /** Promise 23. */
    private static void chances() {
        FallSchool s = Checks.school(SLOPE);
        fraction(s, 0, 5, 3, 4);
        fraction(s, 0, 6, 7, 8);
        fraction(s, 0, 7, 1, 1);
        fraction(s, 0, 0, 1, 1);
        fraction(s, 7, 7, 1, 1);
        fraction(s, 7, 0, 0, 1);
        fraction(s, 5, 4, 0, 1);
        fraction(s, 2, 3, 1, 2);
        FallSchool cross = Checks.school("ground 3 3;row 919;row 192;row 919;person 4 0");
        fraction(cross, 4, 1, 1, 4);
        fraction(cross, 4, 5, 1, 4);
        FallSchool three = Checks.school("ground 3 3;row 919;row 199;row 919");
        fraction(three, 4, 3, 1, 3);
        FallSchool deep = Checks.school("ground 8 6;row 98765432;row 87654321;row 76543210;row 65432100;row 54321000;row 43210000");
        // To row 4, column 5 go 126 (9 over 4) of the 512 rows of nine steps.
        fraction(deep, 0, 37, 63, 256);
        for (int bad : new int[] {-1, 8, Checks.LEAST, Checks.MOST}) {
            Checks.is("no cell " + bad, s.chance(bad, 0, 0), -1);
            Checks.is("no other cell " + bad, s.chance(0, bad, 0), -1);
        }
        for (int bad : new int[] {-1, 2, Checks.LEAST, Checks.MOST}) {
            Checks.is("no such part " + bad, s.chance(0, 0, bad), -1);
        }
    }

    private static void fraction(FallSchool s, int cell, int other, long above, long below) {
        Checks.is("chance " + cell + " to " + other + ", above", s.chance(cell, other, 0), above);
        Checks.is("chance " + cell + " to " + other + ", below", s.chance(cell, other, 1), below);
    }

    /** Promise 24. */
    private static void insurance() {
        FallSchool s = Checks.school(SLOPE);
        Checks.is("10 in three of four", s.insure(0, 7), 1);
        Checks.is("30 is not above 32", s.insure(0, 8), 0);
        Checks.is("for nothing", s.insure(0, 0), 1);
        Checks.is("on the floor", s.insure(1, 0), 0);
        Checks.is("price 60", s.insure(0, 60), 0);
        for (int bad : new int[] {-1, 61, Checks.LEAST, Checks.MOST}) {
            Checks.is("no price " + bad, s.insure(0, bad), -1);
        }
        for (int bad : new int[] {-1, 2, Checks.LEAST, Checks.MOST}) {
            Checks.is("no person " + bad, s.insure(bad, 0), -1);
        }
        s.fall(0, 4);
        s.undo();
        Checks.is("as ahead of it", s.insure(0, 7), 1);
        FallSchool broken = Checks.school("ground 2 2;row 90;row 99;person 0 0;person 0 0;thing 1 9 9 60;thing 1 1 9 60"
                + ";thing 1 9 9 0");
        Checks.is("equal is not above; worth 0 never is", broken.insure(0, 60), 0);
        Checks.is("above", broken.insure(0, 59), 3);
        Checks.is("not one's own", broken.insure(1, 59), 1);
        broken.fall(1, 4);
        Checks.is("not what is broken", broken.insure(0, 0), 0);
    }

    /** Promise 25. */
    private static void lessons() {
        FallSchool s = Checks.school("ground 2 2;lesson 3;lesson 20;lesson 1;lesson 2;lesson 4;lesson 5"
                + ";after 0 2;after 0 1;after 3 4;after 4 3;after 5 3;after 5 0");
        Checks.is("behind the longest", s.lesson(0), 23);
        Checks.is("at first", s.lesson(1), 20);
        Checks.is("at first too", s.lesson(2), 1);
        Checks.is("in a ring", s.lesson(3), -2);
        Checks.is("in a ring too", s.lesson(4), -2);
        Checks.is("behind a ring", s.lesson(5), -2);
        for (int bad : new int[] {-1, 6, Checks.LEAST, Checks.MOST}) {
            Checks.is("no lesson " + bad, s.lesson(bad), -1);
        }
        FallSchool chain = Checks.school("ground 2 2" + ";lesson 20".repeat(8)
                + ";after 0 1;after 1 2;after 2 3;after 3 4;after 4 5;after 5 6;after 6 7");
        Checks.is("the last of a chain", chain.lesson(0), 160);
        Checks.is("no ground", new FallSchool().lesson(0), -1);
    }

    /** Promise 26. */
    private static void orders() {
        FallSchool s = Checks.school("ground 2 2;lesson 1;lesson 1;lesson 1;lesson 1;lesson 1;lesson 1"
                + ";after 0 3;after 1 3;after 4 5;after 5 4;after 2 0");
        int[] due = {3, 0, 1, 2, -2, -2};
        for (int k = 0; k < due.length; k++) {
            Checks.is("order " + k, s.order(k), due[k]);
        }
        Checks.is("far behind", s.order(Checks.MOST), -2);
        Checks.is("below 0", s.order(-1), -1);
        Checks.is("far below 0", s.order(Checks.LEAST), -1);
        Checks.is("no ground", new FallSchool().order(0), -1);
        Checks.is("no lessons", Checks.school("ground 2 2").order(0), -2);
    }

    /** Promise 27. */
    private static void seeds() {
        FallSchool s = new FallSchool();
        Checks.is("0 at first", s.seed(Checks.MOST), 0);
        Checks.is("it was", s.seed(0), Checks.MOST);
        Checks.is("below 0", s.seed(-1), -1);
        Checks.is("far below 0", s.seed(Checks.LEAST), -1);
        Checks.is("nothing happened", s.seed(9), 0);
        Checks.is("x", s.count(12), 9);
    }

    /**
     * Promise 28. The first draws from 0: 0, 21468, 9988, 22117, 3498, 16927. So person 0 of two in cell 21468
     * mod 8 = 4 leans to 9988 mod 5 = 3: 4, 5, 6 (the net); then person 22117 mod 2 = 1 in cell 3498 mod 8 = 2
     * leans to 16927 mod 5 = 2: into the net in 6.
     */
    private static void terms() {
        FallSchool s = Checks.school(SLOPE);
        Checks.is("a fall's mark", s.terms(1, 1, 0), 100);
        Checks.is("what it breaks", s.terms(1, 1, 1), 0);
        Checks.is("its hurt", s.terms(1, 1, 2), 0);
        Checks.is("two falls' marks", s.terms(1, 2, 0), 200);
        Checks.is("two terms' marks", s.terms(2, 1, 0), 200);
        Checks.is("x as it was", s.count(12), 0);
        Checks.is("all as it was", s.person(0, 0), 0);
        FallSchool one = Checks.school("ground 2 2;row 90;row 99;person 3 0;thing 1 9 9 60");
        // Cells 21468, 3498, .. mod 4: 0, 2, ..: from 0 it falls on the thing; a term on its own breaks it once.
        Checks.is("the thing breaks", one.terms(1, 1, 1), 1);
        Checks.is("its mark", one.terms(1, 1, 0), 40);
        Checks.is("its hurt", one.terms(1, 1, 2), 9);
        one.fall(0, 4);
        int once = one.terms(1, 40, 1);
        Checks.is("in one term once at most", once, 0);
        Checks.is("it is broken now", one.count(9), 1);
        one.undo();
        Checks.is("in one term once", one.terms(1, 40, 1), 1);
        Checks.is("in each of many terms once", one.terms(20, 40, 1), 20);
        Checks.is("nothing is broken by that", one.count(9), 0);
        Checks.is("without people", Checks.school("ground 2 2").terms(20, 40, 0), 0);
        for (int bad : new int[] {-1, 3, Checks.LEAST, Checks.MOST}) {
            Checks.is("no such " + bad, s.terms(1, 1, bad), -1);
        }
        for (int bad : new int[] {-1, 0, 21, Checks.LEAST, Checks.MOST}) {
            Checks.is("not so many terms: " + bad, s.terms(bad, 1, 0), -1);
        }
        for (int bad : new int[] {-1, 0, 41, Checks.LEAST, Checks.MOST}) {
            Checks.is("not so many falls: " + bad, s.terms(1, bad, 0), -1);
        }
        Checks.is("no ground", new FallSchool().terms(1, 1, 0), -1);
    }

    /** Promise 29. */
    private static void counts() {
        FallSchool s = Checks.school(SLOPE + ";lesson 1;lesson 2;after 1 0");
        Checks.rule(s, "mark 1");
        Checks.rule(s, "mark 1");
        s.force(1);
        s.fall(0, 4);
        s.clue(0, true);
        s.clue(1, true);
        s.seed(123);
        s.feed(1, 2, 3, 4, 5);
        int[] due = {4, 2, 2, 3, 1, 2, 1, 2, 1, 3, 2, 1, 123, 20};
        for (int what = 0; what < due.length; what++) {
            Checks.is("count " + what, s.count(what), due[what]);
        }
        for (int bad : new int[] {-1, 14, Checks.LEAST, Checks.MOST}) {
            Checks.is("no count " + bad, s.count(bad), -1);
        }
    }

    /** Promises 30 and 31. */
    private static void images() {
        FallSchool s = new FallSchool();
        for (int k = 0; k < 4; k++) {
            Checks.is("never made: " + k, s.back(k), -1);
        }
        Checks.is("of nothing", s.image(3), 0);
        Checks.ground(s, SLOPE);
        Checks.rule(s, "break 1=1");
        Checks.is("whole", s.image(0), 0);
        s.fall(0, 4);
        s.clue(0, true);
        s.seed(7);
        s.force(0);
        Checks.is("two are broken", s.image(1), 2);
        s.undo();
        s.walk(1, 3);
        s.clue(1, true);
        Checks.rule(s, "mark 1");
        s.feed(1, 2, 3, 4, 5);
        Checks.is("back to the second", s.back(1), 2);
        int[] due = {4, 2, 2, 3, 1, 0, 0, 2, 0, 3, 1, 1, 7, 20};
        for (int what = 0; what < due.length; what++) {
            Checks.is("the second image's count " + what, s.count(what), due[what]);
        }
        Checks.is("person 0 is where they fell to", s.person(0, 0), 7);
        Checks.is("the clue is as it was", s.from(0, 1), 0);
        Checks.is("the act can be undone", s.undo(), 0);
        Checks.is("person 0 is where they were", s.person(0, 0), 0);
        Checks.is("back to it again", s.back(1), 2);
        Checks.is("the image is as it was", s.count(11), 1);
        Checks.is("back to the first", s.back(0), 0);
        Checks.is("no rule in force", s.count(8), -1);
        Checks.is("x", s.count(12), 0);
        Checks.is("the rules stay", s.count(7), 2);
        Checks.is("the tape stays", s.count(13), 20);
        Checks.is("back to nothing", s.back(3), 0);
        Checks.is("no ground", s.count(0), 0);
        Checks.is("no person", s.person(0, 0), -1);
        Checks.is("the other image is there still", s.back(1), 2);
        Checks.is("an image in place of one", s.image(3), 2);
        Checks.is("back to it", s.back(3), 2);
        Checks.is("columns", s.count(0), 4);
        for (int bad : new int[] {-1, 4, Checks.LEAST, Checks.MOST}) {
            Checks.is("no image " + bad, s.image(bad), -1);
            Checks.is("no way back to " + bad, s.back(bad), -1);
        }
        Checks.is("never made", s.back(2), -1);
    }
}
