/** The faults of grounds and rules. A ^ in a text marks the place of its fault, and is not a part of it. */
public final class FaultsTest {
    private static int wrong = 0;

    public static void main(String[] args) {
        soundGrounds();
        groundsThatCantStand();
        groundNumbers();
        groundCounts();
        soundRules();
        rulesThatCantStand();
        ruleNumbersAndDepth();
        ruleParts();
        ruleClauses();
        leastOfOnePlace();
        System.out.println(wrong == 0 ? "all faults are as due" : wrong + " faults are not as due");
        if (wrong != 0) {
            System.exit(1);
        }
    }

    private static void soundGrounds() {
        ground("ground 2 2", 4);
        ground("ground 8 6", 48);
        ground("  ground  00002   03  ", 6);
        ground("ground2 2;row10;row  01 ; person0 0;net3;lesson1;lesson20;after1 0;thing3 0 30 60", 4);
        ground("ground 2 2;thing 0 9 1 0", 4);
        ground("ground 2 2;lesson 1;lesson 1;after 0 1;after 0 1;after 1 0", 4);
        ground("ground 2 2;row 99;person 3 9;row 99", 4);
        ground(limitGround(), 12);
        ground("ground 2 2;row 12;row 34;person 0 0;person 0 0;person 0 0;person 0 0;person 0 0"
                + ";net 0;net 1;net 2;net 3", 4);
    }

    /** Forty clauses: all but two of all there can be. */
    private static String limitGround() {
        return "ground 2 6" + ";row12".repeat(6) + ";person0 0".repeat(5) + ";lesson 1".repeat(8)
                + ";after 0 1".repeat(10) + ";net 0;net 1;net 2;net 3" + ";thing 0 9 1 1".repeat(6);
    }

    private static void groundsThatCantStand() {
        groundFault("^", 0);
        groundFault("   ^", 0);
        groundFault("^;", 0);
        groundFault("^7", 0);
        groundFault("^Ground 2 2", 0);
        groundFault("^grounds 2 2", 0);
        groundFault("^groun 2 2", 0);
        groundFault("^groundz 2 2", 0);
        groundFault("ground^{2 2", 0);
        groundFault("ground^`2 2", 0);
        groundFault("ground ^/2 2", 0);
        groundFault("ground 2 2^:", 0);
        groundFault(" ^g", 0);
        groundFault("ground^", 0);
        groundFault("ground ^", 0);
        groundFault("ground ^x", 0);
        groundFault("ground ^-2 2", 0);
        groundFault("ground 2^", 0);
        groundFault("ground 2   ^", 0);
        groundFault("ground 2 2^,", 0);
        groundFault("ground 2 2 ^2", 0);
        groundFault("ground 2 2;^", 0);
        groundFault("ground 2 2; ^", 0);
        groundFault("ground 2 2;^;", 0);
        groundFault("ground 2 2 ^row 12", 0);
        groundFault("ground 2 2;^rows 12", 0);
        groundFault("ground 2 2;^\trow 12", 0);
        groundFault("ground 2 2;row^", 0);
        groundFault("ground 2 2;row  ^", 0);
        groundFault("ground 2 2;row ^;", 0);
        groundFault("ground 2 2;row 1^", 0);
        groundFault("ground 2 2;row 1^ 2", 0);
        groundFault("ground 2 2;row 1^ ", 0);
        groundFault("ground 2 2;row 1^;row 12", 0);
        groundFault("ground 2 2;row 12^3", 0);
        groundFault("ground 2 2;row 12 ^3", 0);
        groundFault("ground 2 2;row ^a2", 0);
        groundFault("ground 2 2;person 1^", 0);
        groundFault("ground 2 2;person 1 ^;", 0);
        groundFault("ground 2 2;thing 1 9 1^", 0);
        groundFault("ground 2 2;thing 1 9 1 1 ^1", 0);
        groundFault("ground 2 2;lesson 1;after 0^", 0);
        groundFault("ground 2 2^" + (char) 0, 0);
        groundFault("ground 2 2^" + (char) 200, 0);
    }

    private static void groundNumbers() {
        groundFault("ground ^1 2", 1);
        groundFault("ground ^9 2", 1);
        groundFault("ground 2 ^1", 1);
        groundFault("ground 2 ^7", 1);
        groundFault("ground ^000002 2", 1);
        groundFault("ground ^22", 1);
        groundFault("ground 2 2;person ^4 0", 1);
        groundFault("ground 2 2;person 3 ^10", 1);
        groundFault("ground 2 2;thing ^4 9 1 1", 1);
        groundFault("ground 2 2;thing 0 ^0 1 1", 1);
        groundFault("ground 2 2;person 0 0;thing 0 ^1 1 1", 1);
        groundFault("ground 2 2;person 0 0;thing 0 ^8 1 1", 1);
        groundFault("ground 2 2;thing 0 ^10 1 1", 1);
        groundFault("ground 2 2;thing 0 9 ^0 1", 1);
        groundFault("ground 2 2;thing 0 9 ^31 1", 1);
        groundFault("ground 2 2;thing 0 9 30 ^61", 1);
        groundFault("ground 2 2;net ^4", 1);
        groundFault("ground 2 2;net 1;net ^1", 1);
        groundFault("ground 2 2;lesson ^0", 1);
        groundFault("ground 2 2;lesson ^21", 1);
        groundFault("ground 2 2;after ^0 0", 1);
        groundFault("ground 2 2;lesson 1;after ^1 0", 1);
        groundFault("ground 2 2;lesson 1;after 0 ^1", 1);
        groundFault("ground 2 2;lesson 1;after 0 ^0", 1);
        groundFault("ground 2 2;lesson 1;after 0 ^00001;x", 1);
        groundFault("ground 2 2;net ^99999999999999999999", 1);
    }

    private static void groundCounts() {
        groundFault("^row 12;ground 2 2", 4);
        groundFault(" ^after", 4);
        groundFault("ground 2 2;^ground", 4);
        groundFault("ground 2 2;row 12;row 12;^row", 4);
        groundFault("ground 2 2" + ";person 0 0".repeat(5) + "; ^person 0 0", 4);
        groundFault("ground 2 2" + ";thing 0 9 1 1".repeat(8) + ";^thing", 4);
        groundFault("ground 2 2" + ";net 0;net 1;net 2;net 3" + ";^net 0", 4);
        groundFault("ground 2 2" + ";lesson 1".repeat(8) + ";^lesson 1", 4);
        groundFault("ground 2 2;lesson 1;lesson 1" + ";after 0 1".repeat(10) + ";^after", 4);
        groundFault(limitGround() + ";^thing 0 9 1 1", 4);
    }

    private static void soundRules() {
        rule("break 1=1");
        rule("mark 0");
        rule("mark 99999 - 00000");
        rule(" break not not [ force >= hard and [ own = 0 or soft<3 ] ] ; mark worth*2 - drop/step%height if people>0");
        rule("mark1if1=1or2<3and4>5");
        rule("break person+thing+force+drop+step+height+hard+worth+own+broken+soft+people<=0");
        rule("break " + "[".repeat(10) + "1=1" + "]".repeat(10));
        rule("break " + "not ".repeat(10) + "1=1");
        rule("break " + "[not ".repeat(5) + "1=1" + "]".repeat(5) + " or " + "[".repeat(10) + "1=1" + "]".repeat(10));
        rule("mark 1" + "+1".repeat(59));
        rule("break 1=1" + " or 1=1".repeat(19));
        rule("mark 1" + ";mark 1".repeat(11));
    }

    private static void rulesThatCantStand() {
        ruleFault("^", 0);
        ruleFault("^breaks 1=1", 0);
        ruleFault("^if 1=1", 0);
        ruleFault("break^", 0);
        ruleFault("break 1^", 0);
        ruleFault("break 1 ^;", 0);
        ruleFault("break 1=^", 0);
        ruleFault("break 1=1^=1", 0);
        ruleFault("break 1=^=1", 0);
        ruleFault("break 1<^>1", 0);
        ruleFault("break 1=^>1", 0);
        ruleFault("break 1< ^=1", 0);
        ruleFault("break 1^!1", 0);
        ruleFault("break 1=1 ^if 1=1", 0);
        ruleFault("break 1=1 ^]", 0);
        ruleFault("break [1=1^", 0);
        ruleFault("break [1=1^;mark 1", 0);
        ruleFault("break [^]", 0);
        ruleFault("break [1^]", 0);
        ruleFault("break [1=1]^=1", 0);
        ruleFault("break 1=^[1]", 0);
        ruleFault("break 1=^not", 0);
        ruleFault("break not^", 0);
        ruleFault("break ^nota=1", 0);
        ruleFault("break ^and 1=1", 0);
        ruleFault("break 1=1 and^", 0);
        ruleFault("break 1=1 ^andor 1=1", 0);
        ruleFault("break 1=1 or ^and", 0);
        ruleFault("break ^forces=1", 0);
        ruleFault("break force ^drop=1", 0);
        ruleFault("break 1 ^1=1", 0);
        ruleFault("break ^-1=1", 0);
        ruleFault("break ^Own=1", 0);
        ruleFault("mark^", 0);
        ruleFault("mark ^;", 0);
        ruleFault("mark ^if 1=1", 0);
        ruleFault("mark 1+^", 0);
        ruleFault("mark 1+^+1", 0);
        ruleFault("mark 1*^/1", 0);
        ruleFault("mark 1^=1", 0);
        ruleFault("mark 1 if^", 0);
        ruleFault("mark 1 if 1=1 ^if 1=1", 0);
        ruleFault("mark 1 ^and 1=1", 0);
        ruleFault("mark ^[1]", 0);
        ruleFault("mark 1;^", 0);
        ruleFault("mark 1;^;", 0);
        ruleFault("mark 1^,", 0);
        ruleFault("mark 1^" + (char) 9 + "+1", 0);
    }

    private static void ruleNumbersAndDepth() {
        ruleFault("mark ^100000", 1);
        ruleFault("mark 1+^000000", 1);
        ruleFault("break ^999999999999999999999=1", 1);
        ruleFault("break " + "[".repeat(10) + "^[1=1", 2);
        ruleFault("break " + "not ".repeat(10) + "^not 1=1", 2);
        ruleFault("break " + "[not ".repeat(5) + "^not 1=1", 2);
        ruleFault("break " + "not [".repeat(5) + " ^[1=1", 2);
        ruleFault("break " + "[".repeat(10) + "1=1" + "]".repeat(10) + " and " + "[".repeat(10) + "^[1=1", 2);
        ruleFault("break " + "[".repeat(10) + "^nota=1", 0);
    }

    private static void ruleParts() {
        ruleFault("mark 1" + "+1".repeat(59) + "+^1", 3);
        ruleFault("mark 1" + "+1".repeat(59) + "+^worth", 3);
        ruleFault("break 1=1" + " or 1=1".repeat(19) + " or ^1=1", 3);
        ruleFault("mark 1" + "+1".repeat(57) + " if 1 = ^1", 3);
        ruleFault("mark 1" + "+1".repeat(58) + " if 1 ^<= 1", 3);
        ruleFault("mark 1" + "+1".repeat(29) + ";mark 1" + "+1".repeat(29) + ";mark ^1", 3);
    }

    private static void ruleClauses() {
        ruleFault("mark 1" + ";mark 1".repeat(11) + "; ^break 1=1", 4);
        ruleFault("break 1=1" + ";mark 1".repeat(11) + ";^mark", 4);
    }

    private static void leastOfOnePlace() {
        groundFault(limitGround() + ";^things", 0);
        groundFault(limitGround() + ";^", 0);
        groundFault(limitGround() + ";^ground 2 2", 4);
        ruleFault("mark 1" + ";mark 1".repeat(11) + ";^marks", 0);
        ruleFault("mark 1" + ";mark 1".repeat(11) + ";^", 0);
        ruleFault("mark 1" + "+1".repeat(59) + "+^100000", 1);
        ruleFault("mark 1" + "+1".repeat(59) + "+^hardy", 0);
        ruleFault("mark 1" + "+1".repeat(59) + "+^", 0);
        ruleFault("mark 1" + "+1".repeat(59) + " if not ^1=1", 3);
    }

    private static void ground(String text, int due) {
        FallSchool school = new FallSchool();
        feed(school, text);
        expect(text, school.ground(), due);
    }

    private static void rule(String text) {
        FallSchool school = new FallSchool();
        feed(school, text);
        expect(text, school.rule(), 0);
        expect("rules of " + text, school.count(7), 1);
    }

    private static void groundFault(String marked, int kind) {
        FallSchool school = new FallSchool();
        feed(school, marked.replace("^", ""));
        expect(marked, school.ground(), -2 - (1 + 8 * marked.indexOf('^') + kind));
        expect("no ground by " + marked, school.count(0), 0);
        expect("empty tape behind " + marked, school.count(13), 0);
    }

    private static void ruleFault(String marked, int kind) {
        FallSchool school = new FallSchool();
        feed(school, marked.replace("^", ""));
        expect(marked, school.rule(), -2 - (1 + 8 * marked.indexOf('^') + kind));
        expect("no rule by " + marked, school.count(7), 0);
        expect("empty tape behind " + marked, school.count(13), 0);
    }

    private static void feed(FallSchool school, String text) {
        int[] five = new int[5];
        for (int start = 0; start < text.length(); start += 20) {
            for (int i = 0; i < 5; i++) {
                five[i] = 0;
                for (int j = 0; j < 4; j++) {
                    int at = start + 4 * i + j;
                    five[i] = five[i] << 8 | (at < text.length() ? text.charAt(at) & 255 : 0);
                }
            }
            school.feed(five[0], five[1], five[2], five[3], five[4]);
        }
        expect("the tape takes " + text, school.end(text.length()), text.length());
    }

    private static void expect(String what, long got, long due) {
        if (got != due) {
            wrong++;
            System.out.println(what + ": answered " + got + ", due is " + due);
        }
    }
}
