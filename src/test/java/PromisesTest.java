import java.util.ArrayList;
import java.util.List;

/**
 * Each promise, with ordinary inputs, the edges that the document names, and wrong inputs. What is due was
 * worked out by hand from the document.
 */
public final class PromisesTest {
    /*
     * Heights 9 6 3 1 over 7 5 2 0: cell 0 leads along 1, 2, 3 to the floor 7; cell 4 along 5 and 6. Person 0
     * (soft 1) is in 0, person 1 (soft 0) in 7; thing 0 is the school's, thing 1 person 0's, thing 2 person 1's.
     */
    private static final String SLOPE = "ground 4 2;row 9631;row 7520;person 0 1;person 7 0"
            + ";thing 2 9 4 10;thing 3 0 5 20;thing 5 1 3 7;net 6";
    private static final int LEAST = Integer.MIN_VALUE;
    private static final int MOST = Integer.MAX_VALUE;

    private static int wrong = 0;

    public static void main(String[] args) {
        newObject();
        feedAndEnd();
        grounds();
        rules();
        ruleWords();
        ruleReckoning();
        forces();
        cells();
        peopleAndThings();
        falls();
        fallsByRule();
        marksByRule();
        walks();
        puts();
        mends();
        undoes();
        woulds();
        leans();
        ways();
        waysByRule();
        clues();
        origins();
        shards();
        trays();
        games();
        chances();
        insurance();
        lessons();
        orders();
        seeds();
        terms();
        counts();
        images();
        System.out.println(wrong == 0 ? "all promises hold" : wrong + " answers are not as due");
        if (wrong != 0) {
            System.exit(1);
        }
    }

    /** Promise 1. */
    private static void newObject() {
        FallSchool s = new FallSchool();
        int[] due = {0, 0, 0, 0, 0, 0, 0, 0, -1, 0, 0, 0, 0, 0};
        for (int what = 0; what < due.length; what++) {
            is("a new object's count " + what, s.count(what), due[what]);
        }
        is("NONE", FallSchool.NONE, -1);
        is("another object's ground is its own", new FallSchool().cell(0, 0), -2);
    }

    /** Promises 2 and 3. */
    private static void feedAndEnd() {
        FallSchool s = new FallSchool();
        for (int i = 1; i <= 20; i++) {
            is("feed " + i, s.feed(0x20202020, 0x20202020, 0x20202020, 0x20202020, 0x20202020), 20 * i);
        }
        is("a full tape takes no more", s.feed(1, 2, 3, 4, 5), -1);
        is("and stays", s.count(13), 400);
        is("end below 0", s.end(-1), -1);
        is("end far below 0", s.end(LEAST), -1);
        is("end behind the tape", s.end(401), -1);
        is("end far behind it", s.end(MOST), -1);
        is("nothing happened", s.count(13), 400);
        is("end at the end", s.end(400), 400);
        is("end", s.end(381), 381);
        is("381 and 20 are above 400", s.feed(1, 2, 3, 4, 5), -1);
        is("and it stays", s.count(13), 381);
        is("end 380", s.end(380), 380);
        is("380 and 20 are not", s.feed(0x20202020, 0x20202020, 0x20202020, 0x20202020, 0x20202078), 400);
        is("the lowest byte is the last one", s.ground(), -2 - (1 + 8 * 399));
        is("end 0", s.end(0), 0);
        is("end of an empty tape", s.end(1), -1);
        is("bytes above 127", s.feed(0xff67726f, 0x756e6420, 0x32203200, 0, 0), 20);
        is("are no letters", s.rule(), -3);
        is("the highest byte is the first one", s.feed(0x67726f75, 0x6e642032, 0x20320000, 0, 0), 20);
        is("end of a ground", s.end(10), 10);
        is("ground", s.ground(), 4);
    }

    /** Promise 4. */
    private static void grounds() {
        FallSchool s = school(SLOPE);
        is("rule", tellRule(s, "mark 1"), 0);
        s.force(0);
        s.seed(77);
        s.fall(0, 4);
        s.clue(0, true);
        is("a ground with a fault", tellGround(s, "ground 2 2;x"), -2 - (1 + 8 * 11));
        is("all stays: columns", s.count(0), 4);
        is("all stays: broken", s.count(9), 3);
        is("all stays: clues", s.count(10), 1);
        is("all stays: acts", s.count(11), 1);
        is("the tape is empty", s.count(13), 0);
        is("a fault at the end of an empty tape", s.ground(), -3);
        is("a ground in place of it", tellGround(s, "ground 8 6;person 47 9"), 48);
        int[] due = {8, 6, 1, 0, 0, 0, 0, 1, 0, 0, 0, 0, 77, 0};
        for (int what = 0; what < due.length; what++) {
            is("the new ground's count " + what, s.count(what), due[what]);
        }
        is("rows not told are 0", s.cell(47, 0), 0);
        is("nothing to undo", s.undo(), -2);
        is("its person", s.person(0, 0), 47);
        is("the same ground again has whole things", tellGround(s, SLOPE), 8);
        is("whole", s.count(9), 0);
        FallSchool half = school("ground 2 3;row 12;row 34");
        is("the first row", half.cell(1, 0), 2);
        is("the second row", half.cell(2, 0), 3);
        is("the row not told", half.cell(5, 0), 0);
    }

    /** Promise 5. */
    private static void rules() {
        FallSchool s = new FallSchool();
        is("a fault", tellRule(s, "mark"), -2 - (1 + 8 * 4));
        for (int i = 0; i < 6; i++) {
            is("rule " + i, tellRule(s, "mark " + i), i);
            is("the tape is empty", s.count(13), 0);
        }
        is("a seventh", tellRule(s, "mark 6"), -1);
        is("nothing happens to the tape", s.count(13), 6);
        is("a seventh with a fault", tellRule(s, "mark"), -1);
        is("rules", s.count(7), 6);
        is("none is in force", s.count(8), -1);
    }

    /** The words of a rule, one by one: a fall of person 1 down 8 7 4 0, with thing 1 in the last cell. */
    private static void ruleWords() {
        String text = "ground 4 2;row 8740;row 9999;person 3 0;person 0 1;person 3 5;thing 2 9 30 1;thing 3 1 7 33";
        String[] words = {"person", "thing", "force", "drop", "step", "height", "hard", "worth", "own", "broken",
            "soft", "people"};
        int[] due = {1, 1, 5, 4, 3, 0, 7, 33, 1, 1, 1, 2};
        for (int i = 0; i < words.length; i++) {
            FallSchool s = school(text);
            s.force(tellRule(s, "break 1=1;mark " + words[i] + " if thing=1"));
            is("the word " + words[i], s.would(1, 4, 0), 100 - due[i]);
        }
    }

    private static void ruleReckoning() {
        sum("7/2", 3);
        sum("50+7%4", 53);
        sum("50-7*2", 36);
        sum("50-20-5", 25);
        sum("50-20+5", 35);
        sum("2+3*4", 14);
        sum("2*3+4", 10);
        sum("2+3*4-5*2", 4);
        sum("100/7/2", 7);
        sum("100%7*9", 18);
        sum("60/0", 0);
        sum("60+60/0", 60);
        sum("60+60%0", 60);
        sum("0-7", 0);
        sum("50+0-7/2", 47);
        sum("65536*65536*65536*65536+9", 9);
        sum("32768*65536*65536*65536", 0);
        sum("101", 100);
        sum("99999*99999*99999", 100);
        sum("00042", 42);
        holds("1<2", true);
        holds("2<2", false);
        holds("2<=2", true);
        holds("3<=2", false);
        holds("2=2", true);
        holds("2=3", false);
        holds("2>=2", true);
        holds("1>=2", false);
        holds("3>2", true);
        holds("2>2", false);
        holds("1=2 or 1=1 and 1=1", true);
        holds("1=1 or 1=1 and 1=2", true);
        holds("[1=1 or 1=1] and 1=2", false);
        holds("1=2 and 1=1 or 1=1", true);
        holds("1=2 and [1=1 or 1=1]", false);
        holds("not 1=2 and 1=2", false);
        holds("not [1=2 and 1=2]", true);
        holds("not not 1=1", true);
        holds("not 1=1 or 1=1", true);
        holds("0-1<0", true);
        holds("0-7 = 0-7/1", true);
        holds("2*3+4=10 and 10=2*3+4", true);
        // 2^63 goes round to the least number there is.
        holds("32768*65536*65536*65536<0", true);
        holds("32768*65536*65536*65536-1>0", true);
    }

    private static void sum(String sum, int due) {
        FallSchool s = school("ground 2 2;row 50;row 99;person 0 0;thing 1 9 1 1");
        s.force(tellRule(s, "mark " + sum));
        is("100 less " + sum, s.would(0, 4, 0), 100 - due);
    }

    private static void holds(String test, boolean due) {
        FallSchool s = school("ground 2 2;row 50;row 99;person 0 0;thing 1 9 30 1");
        s.force(tellRule(s, "break " + test));
        is("break " + test, s.would(0, 4, 2), due ? 1 : 0);
    }

    /** Promise 6. */
    private static void forces() {
        FallSchool s = new FallSchool();
        is("no such rule", s.force(0), -2);
        is("none", s.force(-1), -1);
        tellRule(s, "mark 1");
        tellRule(s, "mark 2");
        is("none was", s.force(1), -1);
        is("1 was", s.force(0), 1);
        is("no rule 2", s.force(2), -2);
        is("no rule -2", s.force(-2), -2);
        is("no rule that low", s.force(LEAST), -2);
        is("no rule that high", s.force(MOST), -2);
        is("0 still is", s.count(8), 0);
        is("0 was", s.force(-1), 0);
        is("none is", s.count(8), -1);
    }

    /** Promise 7. */
    private static void cells() {
        FallSchool s = school(SLOPE);
        int[][] due = {
            {9, 1, 0, 1, 0, 7, 4}, {6, 2, 0, 0, 0, 7, 3}, {3, 3, 0, 0, 1, 7, 2}, {1, 7, 0, 0, 2, 7, 1},
            {7, 5, 0, 0, 0, 7, 3}, {5, 6, 0, 0, 4, 7, 2}, {2, 7, 1, 0, 0, 7, 1}, {0, -1, 0, 2, 0, 7, 0}};
        for (int cell = 0; cell < due.length; cell++) {
            for (int what = 0; what < 7; what++) {
                is("cell " + cell + ", " + what, s.cell(cell, what), due[cell][what]);
            }
        }
        for (int bad : new int[] {-1, 8, LEAST, MOST}) {
            is("no cell " + bad, s.cell(bad, 0), -2);
        }
        for (int bad : new int[] {-1, 7, LEAST, MOST}) {
            is("no such thing of a cell: " + bad, s.cell(0, bad), -2);
        }
        s.fall(0, 4);
        is("broken things stay in their cells", s.cell(2, 4), 1);
        is("both are at the floor", s.cell(7, 3), 3);
        FallSchool even = school("ground 3 3;row 919;row 191;row 919");
        is("of several the least side: up", even.cell(4, 1), 1);
        FallSchool flat = school("ground 3 3;row 999;row 191;row 919");
        is("of several the least side: right", flat.cell(4, 1), 5);
        FallSchool level = school("ground 2 2;row 55;row 55");
        is("a level cell is a floor", level.cell(0, 1), -1);
        is("and its own end", level.cell(2, 5), 2);
        FallSchool lowest = school("ground 3 3;row 939;row 494;row 919");
        is("the lowest, not the first", lowest.cell(4, 1), 7);
        FallSchool left = school("ground 2 2;row 91;row 19");
        is("a row's end has no right side", left.cell(1, 1), -1);
    }

    /** Promises 8 and 9. */
    private static void peopleAndThings() {
        FallSchool s = school(SLOPE);
        is("cell of person 0", s.person(0, 0), 0);
        is("soft of person 0", s.person(0, 1), 1);
        is("cell of person 1", s.person(1, 0), 7);
        is("soft of person 1", s.person(1, 1), 0);
        for (int bad : new int[] {-1, 2, LEAST, MOST}) {
            is("no person " + bad, s.person(bad, 0), -1);
            is("no such thing of a person: " + bad, s.person(0, bad), -1);
        }
        int[][] due = {{2, 9, 4, 10, 0}, {3, 0, 5, 20, 0}, {5, 1, 3, 7, 0}};
        for (int thing = 0; thing < 3; thing++) {
            for (int what = 0; what < 5; what++) {
                is("thing " + thing + ", " + what, s.thing(thing, what), due[thing][what]);
            }
        }
        for (int bad : new int[] {-1, 3, LEAST, MOST}) {
            is("no thing " + bad, s.thing(bad, 0), -1);
        }
        for (int bad : new int[] {-1, 5, LEAST, MOST}) {
            is("no such thing of a thing: " + bad, s.thing(0, bad), -1);
        }
        s.fall(0, 4);
        is("broken", s.thing(1, 4), 1);
        is("whole", s.thing(2, 4), 0);
    }

    /** Promise 10. */
    private static void falls() {
        FallSchool s = school(SLOPE);
        for (int bad : new int[] {-1, 2, LEAST, MOST}) {
            is("no person falls: " + bad, s.fall(bad, 0), -1);
        }
        for (int bad : new int[] {-1, 5, LEAST, MOST}) {
            is("no side: " + bad, s.fall(0, bad), -1);
        }
        is("nothing happened", s.count(11), 0);
        is("a fall into the net", s.fall(0, 2), 100);
        is("ends there", s.person(0, 0), 6);
        is("and breaks nothing", s.count(9), 0);
        is("from the net it goes on", s.fall(0, 4), 100);
        is("to the floor", s.person(0, 0), 7);
        is("on the floor it never begins", s.fall(0, 4), 100);
        is("but is an act", s.count(11), 3);
        FallSchool other = school(SLOPE);
        is("a fall that breaks", other.fall(0, 4), 90);
        is("what it breaks", other.count(9), 3);
        is("where it ends", other.person(0, 0), 7);
        other.walk(0, 3);
        is("walked", other.person(0, 0), 7);
        FallSchool again = school("ground 2 2;row 90;row 99;person 0 0;person 0 0;thing 1 9 9 60;thing 1 1 9 60");
        is("both break: 0 at least", again.fall(0, 4), 0);
        is("what is broken doesn't break again", again.fall(1, 4), 100);
        FallSchool upper = school("ground 2 2;row 19;row 55;person 1 0;thing 0 9 8 1");
        is("left", upper.fall(0, 3), 99);
        FallSchool soft = school("ground 2 2;row 90;row 99;person 0 9;thing 1 9 1 5");
        is("soft: no force", soft.would(0, 4, 1), 0);
        is("soft: nothing breaks", soft.fall(0, 4), 100);
        FallSchool softer = school("ground 4 2;row 7650;row 9999;person 0 3;thing 3 9 2 5;thing 2 9 1 5");
        is("force is 0 at least at each step", softer.would(0, 4, 1), 2);
        is("and breaks by it", softer.fall(0, 4), 95);
    }

    private static void fallsByRule() {
        FallSchool s = school(SLOPE);
        s.force(tellRule(s, "break step=3;break own=0 and force>100"));
        is("by some break test", s.would(0, 4, 2), 2);
        s.force(tellRule(s, "mark 5"));
        is("a rule without break: force is hard or more", s.would(0, 4, 2), 3);
        is("its mark", s.would(0, 4, 0), 90);
        s.force(tellRule(s, "break broken=0"));
        is("what broke ahead", s.would(0, 4, 2), 1);
        is("a rule without mark: the worth of others'", s.would(0, 4, 0), 90);
        s.force(tellRule(s, "break 1=1"));
        is("a net keeps all whole", s.would(0, 2, 2), 4);
        FallSchool net = school("ground 2 2;row 90;row 99;person 0 0;thing 1 9 1 5;net 1");
        net.force(tellRule(net, "break 1=1"));
        is("in the net's own cell too", net.would(0, 4, 2), 0);
        FallSchool crowd = school("ground 2 2;row 90;row 99;person 0 0;person 1 0;person 1 0;thing 1 9 9 5");
        is("half of 9, once, downwards", crowd.would(0, 4, 1), 4);
        is("but behind the breaking", crowd.would(0, 4, 2), 1);
    }

    private static void marksByRule() {
        FallSchool s = school("ground 2 2;row 90;row 99;person 0 0;thing 1 9 1 7;thing 1 0 1 8;thing 1 9 1 9");
        s.force(tellRule(s, "mark 30 if thing=1;mark 3 if thing>0;mark 60 if thing=1"));
        is("the first that holds; without one 0", s.would(0, 4, 0), 67);
        s.force(tellRule(s, "mark 0-5 if thing=0;mark 250 if thing=1"));
        is("held to 0 to 100", s.would(0, 4, 0), 0);
        s.force(tellRule(s, "mark 0-5;mark 10"));
        is("held to 0", s.would(0, 4, 0), 100);
        s.force(tellRule(s, "mark broken*10"));
        is("words as when it broke", s.would(0, 4, 0), 70);
        s.force(tellRule(s, "mark own*50"));
        is("their own too", s.would(0, 4, 0), 50);
        s.force(tellRule(s, "mark 60"));
        is("0 at least", s.fall(0, 4), 0);
    }

    /** Promise 11. */
    private static void walks() {
        FallSchool s = school("ground 3 2;row 213;row 109;person 0 0");
        is("no cell above", s.walk(0, 0), -1);
        is("no cell to the left", s.walk(0, 3), -1);
        is("one lower", s.walk(0, 1), 1);
        is("two higher", s.walk(0, 1), -1);
        is("one lower, down", s.walk(0, 2), 4);
        is("nine higher", s.walk(0, 1), -1);
        is("no cell below", s.walk(0, 2), -1);
        is("left", s.walk(0, 3), 3);
        is("up, one higher", s.walk(0, 0), 0);
        for (int bad : new int[] {-1, 4, LEAST, MOST}) {
            is("no side " + bad, s.walk(0, bad), -1);
        }
        for (int bad : new int[] {-1, 1, LEAST, MOST}) {
            is("no person " + bad, s.walk(bad, 1), -1);
        }
        is("four acts", s.count(11), 4);
        is("where they are", s.person(0, 0), 0);
        FallSchool level = school("ground 2 2;row 55;row 57;person 1 0");
        is("level", level.walk(0, 3), 0);
        is("level, down", level.walk(0, 2), 2);
        is("two higher", level.walk(0, 1), -1);
        FallSchool edge = school("ground 2 2;person 1 0");
        is("a row's end has no right side", edge.walk(0, 1), -1);
        is("nor the next row's begin a left one", school("ground 2 2;person 2 0").walk(0, 3), -1);
    }

    /** Promise 12. */
    private static void puts() {
        FallSchool s = school(SLOPE);
        is("put", s.put(0, 7), 2);
        is("it is there", s.thing(0, 0), 7);
        is("bits", s.cell(7, 4), 1);
        is("the same cell", s.put(0, 7), -1);
        for (int bad : new int[] {-1, 8, LEAST, MOST}) {
            is("no cell " + bad, s.put(0, bad), -1);
        }
        for (int bad : new int[] {-1, 3, LEAST, MOST}) {
            is("no thing " + bad, s.put(bad, 0), -1);
        }
        is("one act", s.count(11), 1);
        is("it is touched where it is now", s.would(0, 4, 2), 3);
        s.fall(0, 4);
        is("a broken one", s.put(1, 0), -1);
        is("into a net's cell", s.put(2, 6), 5);
        is("nothing breaks there", s.would(1, 4, 2), 0);
    }

    /** Promise 13. */
    private static void mends() {
        FallSchool s = school(SLOPE);
        yes("a whole one", s.mend(0), false);
        s.fall(0, 4);
        yes("a broken one", s.mend(1), true);
        is("it is whole", s.thing(1, 4), 0);
        is("the other one is not", s.count(9), 1);
        yes("whole again", s.mend(1), false);
        for (int bad : new int[] {-1, 3, LEAST, MOST, 32}) {
            yes("no thing " + bad, s.mend(bad), false);
        }
        is("two acts", s.count(11), 2);
        is("it can be put now", s.put(1, 0), 3);
    }

    /** Promise 14. */
    private static void undoes() {
        FallSchool s = school(SLOPE);
        is("none", s.undo(), -2);
        s.fall(0, 4);
        s.mend(0);
        s.put(0, 1);
        s.fall(0, 4);
        s.walk(0, 0);
        is("the walk", s.undo(), 4);
        is("back at the floor", s.person(0, 0), 7);
        is("the fall that never began", s.undo(), 3);
        is("the put", s.undo(), 2);
        is("where it was", s.thing(0, 0), 2);
        is("the mend", s.undo(), 1);
        is("broken again", s.count(9), 3);
        s.seed(5);
        s.clue(0, true);
        is("acts alone can be undone", s.count(11), 1);
        is("the fall", s.undo(), 0);
        is("all whole", s.count(9), 0);
        is("where they were", s.person(0, 0), 0);
        is("none more", s.undo(), -2);
        is("x stays", s.count(12), 5);
        is("clues stay", s.count(10), 1);
        FallSchool walker = school("ground 2 2;person 0 0");
        for (int i = 0; i < 25; i++) {
            walker.walk(0, i % 2 == 0 ? 1 : 3);
        }
        is("the last 20", walker.count(11), 20);
        is("they are in 1", walker.person(0, 0), 1);
        for (int i = 19; i >= 0; i--) {
            is("undo to " + i, walker.undo(), i);
            is("where they are then", walker.person(0, 0), (5 + i) % 2);
        }
        is("no more", walker.undo(), -2);
        is("five walks stay", walker.person(0, 0), 1);
        manyActsUndone();
    }

    /** Acts of all kinds, more than can be undone; an image of them, gone back to behind others. */
    private static void manyActsUndone() {
        FallSchool s = school("ground 3 2;row 210;row 333;person 0 0;person 3 0;thing 2 9 1 5;thing 1 9 1 6;thing 0 9 1 7");
        List<String> before = new ArrayList<>();
        before.add(places(s));
        for (int act = 0; act < 1000 && before.size() < 25; act++) {
            if (tryAct(s, act)) {
                before.add(places(s));
            }
        }
        is("so many acts", before.size(), 25);
        before.remove(24);
        s.image(0);
        for (int i = 0; i < 40; i++) {
            tryAct(s, 7 * i + 3);
        }
        s.back(0);
        for (int i = 19; i >= 0; i--) {
            is("undo of many, " + i, s.undo(), i);
            String due = before.get(before.size() - 20 + i);
            String got = places(s);
            yes("all as it was: " + due + ", not " + got, got.equals(due), true);
        }
        is("the 21st can't be undone", s.undo(), -2);
    }

    private static boolean tryAct(FallSchool s, int act) {
        int person = act % 2;
        int thing = act % 3;
        return switch (act % 4) {
            case 0 -> s.fall(person, act % 5) >= 0;
            case 1 -> s.put(thing, act % 6) >= 0;
            case 2 -> s.walk(act / 4 % 2, act / 8 % 4) >= 0;
            default -> s.mend(thing);
        };
    }

    private static String places(FallSchool s) {
        return s.person(0, 0) + " " + s.person(1, 0) + ", " + s.thing(0, 0) + " " + s.thing(1, 0) + " " + s.thing(2, 0)
                + ", " + s.count(9);
    }

    /** Promise 15. */
    private static void woulds() {
        FallSchool s = school(SLOPE);
        int[] straight = {90, 2, 3, 7, 4};
        int[] down = {100, 0, 0, 6, 3};
        for (int what = 0; what < 5; what++) {
            is("lean to none, " + what, s.would(0, 4, what), straight[what]);
            is("lean up, where no cell is, " + what, s.would(0, 0, what), straight[what]);
            is("lean right, " + what, s.would(0, 1, what), straight[what]);
            is("lean left, where no cell is, " + what, s.would(0, 3, what), straight[what]);
            is("lean down, " + what, s.would(0, 2, what), down[what]);
        }
        int[] floor = {100, 0, 0, 7, 0};
        for (int what = 0; what < 5; what++) {
            is("on a floor, " + what, s.would(1, 0, what), floor[what]);
        }
        for (int bad : new int[] {-1, 5, LEAST, MOST}) {
            is("no side " + bad, s.would(0, bad, 0), -1);
            is("no such thing of a fall: " + bad, s.would(0, 0, bad), -1);
        }
        for (int bad : new int[] {-1, 2, LEAST, MOST}) {
            is("no person " + bad, s.would(bad, 0, 0), -1);
        }
        is("nothing changed", s.count(9) + s.count(11) + s.person(0, 0), 0);
        s.fall(0, 4);
        s.undo();
        s.put(2, 1);
        is("a thing put in the way, hard 3 against 2", s.would(0, 4, 2), 3);
    }

    /** Promise 16. */
    private static void leans() {
        FallSchool s = school(SLOPE);
        is("the best mark", s.lean(0), 2);
        is("all alike: the least", s.lean(1), 0);
        for (int bad : new int[] {-1, 2, LEAST, MOST}) {
            is("no person " + bad, s.lean(bad), -1);
        }
        FallSchool hurt = school("ground 3 3;row 999;row 292;row 959;person 4 0");
        is("of one mark the least hurt", hurt.lean(0), 2);
        FallSchool mark = school("ground 3 3;row 999;row 292;row 959;person 4 0;thing 7 9 1 1;thing 5 9 1 1");
        is("the mark comes first", mark.lean(0), 3);
    }

    /** Promise 17. */
    private static void ways() {
        FallSchool s = school(SLOPE);
        is("worth", s.way(0, -1), 0);
        is("steps", s.way(0, -2), 3);
        is("first of two ways", s.way(0, 0), 1);
        is("then down", s.way(0, 1), 2);
        is("then right, into the net", s.way(0, 2), 1);
        is("no more", s.way(0, 3), -2);
        is("far more", s.way(0, MOST), -2);
        is("no such", s.way(0, -3), -3);
        is("no such either", s.way(0, LEAST), -3);
        for (int bad : new int[] {-1, 2, LEAST, MOST}) {
            is("no person " + bad, s.way(bad, -1), -3);
        }
        is("on a floor: worth", s.way(1, -1), 0);
        is("on a floor: steps", s.way(1, -2), 0);
        is("on a floor: no side", s.way(1, 0), -2);
        s.put(2, 4);
        s.put(0, 5);
        is("a thing on each way, too hard for both", s.way(0, -1), 0);
        FallSchool worth = school("ground 3 2;row 940;row 820;person 0 0;thing 1 9 1 20;thing 3 9 1 11;thing 2 9 1 3"
                + ";thing 4 0 1 60");
        is("least worth: down, right, right", worth.way(0, -1), 11);
        is("its steps", worth.way(0, -2), 3);
        is("its first side", worth.way(0, 0), 2);
        is("its last side", worth.way(0, 2), 1);
        FallSchool fewest = school("ground 3 2;row 950;row 876;person 0 0");
        is("fewest steps", fewest.way(0, -2), 2);
        FallSchool broken = school("ground 2 2;row 90;row 99;person 0 0;thing 1 9 1 20");
        is("it would break", broken.way(0, -1), 20);
        broken.fall(0, 4);
        broken.undo();
        is("nothing changed", broken.way(0, -1), 20);
    }

    private static void waysByRule() {
        FallSchool s = school("ground 3 2;row 964;row 752;person 0 0;thing 1 9 30 1;thing 2 9 30 9;thing 3 9 30 5");
        s.force(tellRule(s, "break thing=0 or broken>0"));
        is("down breaks nothing", s.way(0, -1), 0);
        is("down", s.way(0, 0), 2);
        s.put(2, 1);
        s.put(0, 3);
        s.put(1, 4);
        is("right, right, down: thing 1 isn't on it", s.way(0, -1), 0);
        s.put(2, 5);
        s.force(tellRule(s, "break broken>0 or thing=0 or step=1"));
        is("right, right: only the last cell's thing is left, and nothing broke", s.way(0, -1), 0);
        is("right", s.way(0, 1), 1);
    }

    /** Promise 18. */
    private static void clues() {
        FallSchool s = school(SLOPE);
        for (int bad : new int[] {-2, 3, LEAST, MOST}) {
            is("no thing " + bad, s.clue(bad, true), -2);
        }
        for (int i = 1; i <= 8; i++) {
            is("clue " + i, s.clue(i % 3, i % 2 == 0), i);
        }
        is("a ninth", s.clue(0, true), -2);
        is("eight", s.count(10), 8);
        is("none", s.clue(-1, false), 0);
        is("none are there", s.count(10), 0);
        is("all origins again", s.from(0, 0), 40);
    }

    /** Promise 19. */
    private static void origins() {
        FallSchool s = school(SLOPE);
        is("without clues all", s.from(0, 0), 40);
        is("the first cell", s.from(0, 1), 0);
        is("the first side", s.from(0, 2), 0);
        s.clue(0, true);
        is("the school's thing broke", s.from(0, 0), 4);
        s.clue(1, false);
        is("but theirs did not", s.from(0, 0), 0);
        is("no cell", s.from(0, 1), -2);
        is("no side", s.from(0, 2), -2);
        s.clue(-1, true);
        s.clue(0, false);
        is("it did not", s.from(0, 0), 36);
        is("from the first cell", s.from(0, 1), 0);
        is("leaning down", s.from(0, 2), 2);
        s.fall(0, 4);
        is("all things whole", s.from(0, 0), 36);
        for (int bad : new int[] {-1, 3, LEAST, MOST}) {
            is("no such " + bad, s.from(0, bad), -1);
        }
        for (int bad : new int[] {-1, 2, LEAST, MOST}) {
            is("no person " + bad, s.from(bad, 0), -1);
        }
        s.put(2, 0);
        s.clue(-1, true);
        s.clue(2, true);
        is("where it is now nothing falls on it", s.from(0, 0), 0);
        FallSchool crowd = school("ground 4 2;row 9630;row 9999;person 0 0;person 1 0;thing 3 9 8 1");
        crowd.clue(0, true);
        is("person 1 halves what comes from 0, 1 and 5", crowd.from(0, 0), 10);
        is("so the first is 6", crowd.from(0, 1), 6);
        crowd.fall(1, 4);
        is("all others where they are now", crowd.from(0, 0), 20);
        is("so the first is 0", crowd.from(0, 1), 0);
    }

    /** Promise 20. */
    private static void shards() {
        FallSchool s = school(SLOPE);
        is("thing 0 parts 4 and 36, as thing 1", s.shard(0, 0), 0);
        is("36", s.shard(0, 1), 36);
        s.put(0, 0);
        is("thing 1 is left", s.shard(0, 0), 1);
        is("36 still", s.shard(0, 1), 36);
        s.clue(1, true);
        is("all alike: the least", s.shard(0, 0), 0);
        is("4", s.shard(0, 1), 4);
        s.clue(0, true);
        is("none to fall from", s.shard(0, 0), -2);
        is("none to fall from either", s.shard(0, 1), -2);
        for (int bad : new int[] {-1, 2, LEAST, MOST}) {
            is("no such " + bad, s.shard(0, bad), -1);
            is("no person " + bad, s.shard(bad, 0), -1);
        }
        FallSchool bare = school("ground 2 2;person 0 0");
        is("no thing", bare.shard(0, 0), -2);
        is("no thing either", bare.shard(0, 1), -2);
    }

    /** Promise 21. */
    private static void trays() {
        FallSchool s = school(SLOPE);
        is("one", s.trays(1, 0), 8);
        is("the first one", s.trays(1, 1), 0);
        is("no second", s.trays(1, 2), -2);
        is("two", s.trays(2, 0), 12);
        is("first", s.trays(2, 1), 0);
        is("second", s.trays(2, 2), 4);
        is("no third", s.trays(2, 3), -2);
        is("three", s.trays(3, 0), 0);
        for (int what = 1; what < 4; what++) {
            is("none", s.trays(3, what), -2);
        }
        FallSchool flat = school("ground 8 6");
        is("all of 48", flat.trays(3, 0), 48 * 47 * 46 / 6);
        is("the third", flat.trays(3, 3), 2);
        FallSchool last = school("ground 2 2;row 90;row 12");
        is("0 and 3 lead to 1, 2 is a floor: 0 2, 0 3, 1 2, 2 3", last.trays(2, 0), 4);
        is("0 2 3", last.trays(3, 0), 1);
        is("0", last.trays(3, 1), 0);
        is("2", last.trays(3, 2), 2);
        is("3", last.trays(3, 3), 3);
        for (int bad : new int[] {-1, 4, LEAST, MOST}) {
            is("no such " + bad, s.trays(1, bad), -1);
            is("not so many " + bad, s.trays(bad, 0), -1);
        }
        is("not 0", s.trays(0, 0), -1);
        is("no ground", new FallSchool().trays(1, 0), -1);
    }

    /** Promise 22. */
    private static void games() {
        FallSchool s = school(SLOPE);
        int[] due = {-2, 1, -2, 2, 1, -2, 1, -2};
        for (int cell = 0; cell < 8; cell++) {
            is("game from " + cell, s.game(cell, 0), due[cell] < 0 ? 0 : 1);
            is("side from " + cell, s.game(cell, 1), due[cell]);
        }
        FallSchool other = school("ground 2 2;row 21;row 00");
        is("the first side by which: down past a cell that wins", other.game(0, 1), 2);
        for (int bad : new int[] {-1, 2, LEAST, MOST}) {
            is("no such " + bad, s.game(0, bad), -1);
        }
        for (int bad : new int[] {-1, 8, LEAST, MOST}) {
            is("no cell " + bad, s.game(bad, 0), -1);
        }
        tellGround(s, "ground 2 2;row 99;row 98");
        is("a new ground's game", s.game(1, 1), 2);
    }

    /** Promise 23. */
    private static void chances() {
        FallSchool s = school(SLOPE);
        fraction(s, 0, 5, 3, 4);
        fraction(s, 0, 6, 7, 8);
        fraction(s, 0, 7, 1, 1);
        fraction(s, 0, 0, 1, 1);
        fraction(s, 7, 7, 1, 1);
        fraction(s, 7, 0, 0, 1);
        fraction(s, 5, 4, 0, 1);
        fraction(s, 2, 3, 1, 2);
        FallSchool cross = school("ground 3 3;row 919;row 192;row 919;person 4 0");
        fraction(cross, 4, 1, 1, 4);
        fraction(cross, 4, 5, 1, 4);
        FallSchool three = school("ground 3 3;row 919;row 199;row 919");
        fraction(three, 4, 3, 1, 3);
        FallSchool deep = school("ground 8 6;row 98765432;row 87654321;row 76543210;row 65432100;row 54321000;row 43210000");
        // To row 4, column 5 go 126 (9 over 4) of the 512 rows of nine steps.
        fraction(deep, 0, 37, 63, 256);
        for (int bad : new int[] {-1, 8, LEAST, MOST}) {
            is("no cell " + bad, s.chance(bad, 0, 0), -1);
            is("no other cell " + bad, s.chance(0, bad, 0), -1);
        }
        for (int bad : new int[] {-1, 2, LEAST, MOST}) {
            is("no such part " + bad, s.chance(0, 0, bad), -1);
        }
    }

    private static void fraction(FallSchool s, int cell, int other, long above, long below) {
        is("chance " + cell + " to " + other + ", above", s.chance(cell, other, 0), above);
        is("chance " + cell + " to " + other + ", below", s.chance(cell, other, 1), below);
    }

    /** Promise 24. */
    private static void insurance() {
        FallSchool s = school(SLOPE);
        is("10 in three of four", s.insure(0, 7), 1);
        is("30 is not above 32", s.insure(0, 8), 0);
        is("for nothing", s.insure(0, 0), 1);
        is("on the floor", s.insure(1, 0), 0);
        is("price 60", s.insure(0, 60), 0);
        for (int bad : new int[] {-1, 61, LEAST, MOST}) {
            is("no price " + bad, s.insure(0, bad), -1);
        }
        for (int bad : new int[] {-1, 2, LEAST, MOST}) {
            is("no person " + bad, s.insure(bad, 0), -1);
        }
        s.fall(0, 4);
        s.undo();
        is("as ahead of it", s.insure(0, 7), 1);
        FallSchool broken = school("ground 2 2;row 90;row 99;person 0 0;person 0 0;thing 1 9 9 60;thing 1 1 9 60"
                + ";thing 1 9 9 0");
        is("equal is not above; worth 0 never is", broken.insure(0, 60), 0);
        is("above", broken.insure(0, 59), 3);
        is("not one's own", broken.insure(1, 59), 1);
        broken.fall(1, 4);
        is("not what is broken", broken.insure(0, 0), 0);
    }

    /** Promise 25. */
    private static void lessons() {
        FallSchool s = school("ground 2 2;lesson 3;lesson 20;lesson 1;lesson 2;lesson 4;lesson 5"
                + ";after 0 2;after 0 1;after 3 4;after 4 3;after 5 3;after 5 0");
        is("behind the longest", s.lesson(0), 23);
        is("at first", s.lesson(1), 20);
        is("at first too", s.lesson(2), 1);
        is("in a ring", s.lesson(3), -2);
        is("in a ring too", s.lesson(4), -2);
        is("behind a ring", s.lesson(5), -2);
        for (int bad : new int[] {-1, 6, LEAST, MOST}) {
            is("no lesson " + bad, s.lesson(bad), -1);
        }
        FallSchool chain = school("ground 2 2" + ";lesson 20".repeat(8)
                + ";after 0 1;after 1 2;after 2 3;after 3 4;after 4 5;after 5 6;after 6 7");
        is("the last of a chain", chain.lesson(0), 160);
        is("no ground", new FallSchool().lesson(0), -1);
    }

    /** Promise 26. */
    private static void orders() {
        FallSchool s = school("ground 2 2;lesson 1;lesson 1;lesson 1;lesson 1;lesson 1;lesson 1"
                + ";after 0 3;after 1 3;after 4 5;after 5 4;after 2 0");
        int[] due = {3, 0, 1, 2, -2, -2};
        for (int k = 0; k < due.length; k++) {
            is("order " + k, s.order(k), due[k]);
        }
        is("far behind", s.order(MOST), -2);
        is("below 0", s.order(-1), -1);
        is("far below 0", s.order(LEAST), -1);
        is("no ground", new FallSchool().order(0), -1);
        is("no lessons", school("ground 2 2").order(0), -2);
    }

    /** Promise 27. */
    private static void seeds() {
        FallSchool s = new FallSchool();
        is("0 at first", s.seed(MOST), 0);
        is("it was", s.seed(0), MOST);
        is("below 0", s.seed(-1), -1);
        is("far below 0", s.seed(LEAST), -1);
        is("nothing happened", s.seed(9), 0);
        is("x", s.count(12), 9);
    }

    /**
     * Promise 28. The first draws from 0: 0, 21468, 9988, 22117, 3498, 16927. So person 0 of two in cell 21468
     * mod 8 = 4 leans to 9988 mod 5 = 3: 4, 5, 6 (the net); then person 22117 mod 2 = 1 in cell 3498 mod 8 = 2
     * leans to 16927 mod 5 = 2: into the net in 6.
     */
    private static void terms() {
        FallSchool s = school(SLOPE);
        is("a fall's mark", s.terms(1, 1, 0), 100);
        is("what it breaks", s.terms(1, 1, 1), 0);
        is("its hurt", s.terms(1, 1, 2), 0);
        is("two falls' marks", s.terms(1, 2, 0), 200);
        is("two terms' marks", s.terms(2, 1, 0), 200);
        is("x as it was", s.count(12), 0);
        is("all as it was", s.person(0, 0), 0);
        FallSchool one = school("ground 2 2;row 90;row 99;person 3 0;thing 1 9 9 60");
        // Cells 21468, 3498, .. mod 4: 0, 2, ..: from 0 it falls on the thing; a term on its own breaks it once.
        is("the thing breaks", one.terms(1, 1, 1), 1);
        is("its mark", one.terms(1, 1, 0), 40);
        is("its hurt", one.terms(1, 1, 2), 9);
        one.fall(0, 4);
        int once = one.terms(1, 40, 1);
        is("in one term once at most", once, 0);
        is("it is broken now", one.count(9), 1);
        one.undo();
        is("in one term once", one.terms(1, 40, 1), 1);
        is("in each of many terms once", one.terms(20, 40, 1), 20);
        is("nothing is broken by that", one.count(9), 0);
        is("without people", school("ground 2 2").terms(20, 40, 0), 0);
        for (int bad : new int[] {-1, 3, LEAST, MOST}) {
            is("no such " + bad, s.terms(1, 1, bad), -1);
        }
        for (int bad : new int[] {-1, 0, 21, LEAST, MOST}) {
            is("not so many terms: " + bad, s.terms(bad, 1, 0), -1);
        }
        for (int bad : new int[] {-1, 0, 41, LEAST, MOST}) {
            is("not so many falls: " + bad, s.terms(1, bad, 0), -1);
        }
        is("no ground", new FallSchool().terms(1, 1, 0), -1);
    }

    /** Promise 29. */
    private static void counts() {
        FallSchool s = school(SLOPE + ";lesson 1;lesson 2;after 1 0");
        tellRule(s, "mark 1");
        tellRule(s, "mark 1");
        s.force(1);
        s.fall(0, 4);
        s.clue(0, true);
        s.clue(1, true);
        s.seed(123);
        s.feed(1, 2, 3, 4, 5);
        int[] due = {4, 2, 2, 3, 1, 2, 1, 2, 1, 3, 2, 1, 123, 20};
        for (int what = 0; what < due.length; what++) {
            is("count " + what, s.count(what), due[what]);
        }
        for (int bad : new int[] {-1, 14, LEAST, MOST}) {
            is("no count " + bad, s.count(bad), -1);
        }
    }

    /** Promises 30 and 31. */
    private static void images() {
        FallSchool s = new FallSchool();
        for (int k = 0; k < 4; k++) {
            is("never made: " + k, s.back(k), -1);
        }
        is("of nothing", s.image(3), 0);
        tellGround(s, SLOPE);
        tellRule(s, "break 1=1");
        is("whole", s.image(0), 0);
        s.fall(0, 4);
        s.clue(0, true);
        s.seed(7);
        s.force(0);
        is("two are broken", s.image(1), 2);
        s.undo();
        s.walk(1, 3);
        s.clue(1, true);
        tellRule(s, "mark 1");
        s.feed(1, 2, 3, 4, 5);
        is("back to the second", s.back(1), 2);
        int[] due = {4, 2, 2, 3, 1, 0, 0, 2, 0, 3, 1, 1, 7, 20};
        for (int what = 0; what < due.length; what++) {
            is("the second image's count " + what, s.count(what), due[what]);
        }
        is("person 0 is where they fell to", s.person(0, 0), 7);
        is("the clue is as it was", s.from(0, 1), 0);
        is("the act can be undone", s.undo(), 0);
        is("person 0 is where they were", s.person(0, 0), 0);
        is("back to it again", s.back(1), 2);
        is("the image is as it was", s.count(11), 1);
        is("back to the first", s.back(0), 0);
        is("no rule in force", s.count(8), -1);
        is("x", s.count(12), 0);
        is("the rules stay", s.count(7), 2);
        is("the tape stays", s.count(13), 20);
        is("back to nothing", s.back(3), 0);
        is("no ground", s.count(0), 0);
        is("no person", s.person(0, 0), -1);
        is("the other image is there still", s.back(1), 2);
        is("an image in place of one", s.image(3), 2);
        is("back to it", s.back(3), 2);
        is("columns", s.count(0), 4);
        for (int bad : new int[] {-1, 4, LEAST, MOST}) {
            is("no image " + bad, s.image(bad), -1);
            is("no way back to " + bad, s.back(bad), -1);
        }
        is("never made", s.back(2), -1);
    }

    private static FallSchool school(String ground) {
        FallSchool s = new FallSchool();
        if (tellGround(s, ground) < 4) {
            is("a sound ground: " + ground, 0, 1);
        }
        return s;
    }

    private static int tellGround(FallSchool s, String text) {
        feed(s, text);
        return s.ground();
    }

    private static int tellRule(FallSchool s, String text) {
        feed(s, text);
        return s.rule();
    }

    private static void feed(FallSchool s, String text) {
        s.end(0);
        for (int start = 0; start < text.length(); start += 20) {
            int[] five = new int[5];
            for (int i = 0; i < 20; i++) {
                int sign = start + i < text.length() ? text.charAt(start + i) : 0;
                five[i / 4] = five[i / 4] << 8 | sign;
            }
            s.feed(five[0], five[1], five[2], five[3], five[4]);
        }
        s.end(text.length());
    }

    private static void yes(String what, boolean got, boolean due) {
        is(what, got ? 1 : 0, due ? 1 : 0);
    }

    private static void is(String what, long got, long due) {
        if (got != due) {
            wrong++;
            StackTraceElement[] trace = new Throwable().getStackTrace();
            String where = trace[1].getMethodName().equals("yes") ? trace[2].getMethodName() : trace[1].getMethodName();
            System.out.println(where + ": " + what + ": answered " + got + ", due is " + due);
        }
    }
}
