/** The faults of grounds and rules. A ^ in a text marks the place of its fault, and is not a part of it. */
public final class FaultsTest {
    public static void main(String[] args) {
        Checks.runAll(FaultsTest.class);
    }

    private static void soundGrounds() {
        ground("ground 2 2", 4);
        ground("ground 8 6", 48);
        ground("  ground  00002   03  ", 6);
        ground("ground2 2;row10;row  01 ; person0 0;net3;lesson1;lesson20;after1 0;thing3 0 30 60", 4);
        ground("ground 2 2;thing 0 9 1 0", 4);
        ground("ground 2 2;lesson 1;lesson 1;after 0 1;after 0 1;after 1 0", 4);
        ground("ground 2 2;row 99;person 3 9;row 99", 4);
        ground(limitGround(), 12);
        ground("ground 2 2;row 12;row 34;person 0 0;person 0 0;person 0 0;person 0 0;person 0 0"
                + ";net 0;net 1;net 2;net 3", 4);
    }

    /** Forty clauses: all but two of all there can be. */
    private static String limitGround() {
        return "ground 2 6" + ";row12".repeat(6) + ";person0 0".repeat(5) + ";lesson 1".repeat(8)
                + ";after 0 1".repeat(10) + ";net 0;net 1;net 2;net 3" + ";thing 0 9 1 1".repeat(6);
    }

    private static void groundsThatCantStand() {
        Checks.groundFault("^", 0);
        Checks.groundFault("   ^", 0);
        Checks.groundFault("^;", 0);
        Checks.groundFault("^7", 0);
        Checks.groundFault("^Ground 2 2", 0);
        Checks.groundFault("^grounds 2 2", 0);
        Checks.groundFault("^groun 2 2", 0);
        Checks.groundFault("^groundz 2 2", 0);
        Checks.groundFault("ground^{2 2", 0);
        Checks.groundFault("ground^`2 2", 0);
        Checks.groundFault("ground ^/2 2", 0);
        Checks.groundFault("ground 2 2^:", 0);
        Checks.groundFault(" ^g", 0);
        Checks.groundFault("ground^", 0);
        Checks.groundFault("ground ^", 0);
        Checks.groundFault("ground ^x", 0);
        Checks.groundFault("ground ^-2 2", 0);
        Checks.groundFault("ground 2^", 0);
        Checks.groundFault("ground 2   ^", 0);
        Checks.groundFault("ground 2 2^,", 0);
        Checks.groundFault("ground 2 2 ^2", 0);
        Checks.groundFault("ground 2 2;^", 0);
        Checks.groundFault("ground 2 2; ^", 0);
        Checks.groundFault("ground 2 2;^;", 0);
        Checks.groundFault("ground 2 2 ^row 12", 0);
        Checks.groundFault("ground 2 2;^rows 12", 0);
        Checks.groundFault("ground 2 2;^\trow 12", 0);
        Checks.groundFault("ground 2 2;row^", 0);
        Checks.groundFault("ground 2 2;row  ^", 0);
        Checks.groundFault("ground 2 2;row ^;", 0);
        Checks.groundFault("ground 2 2;row 1^", 0);
        Checks.groundFault("ground 2 2;row 1^ 2", 0);
        Checks.groundFault("ground 2 2;row 1^ ", 0);
        Checks.groundFault("ground 2 2;row 1^;row 12", 0);
        Checks.groundFault("ground 2 2;row 12^3", 0);
        Checks.groundFault("ground 2 2;row 12 ^3", 0);
        Checks.groundFault("ground 2 2;row ^a2", 0);
        Checks.groundFault("ground 2 2;person 1^", 0);
        Checks.groundFault("ground 2 2;person 1 ^;", 0);
        Checks.groundFault("ground 2 2;thing 1 9 1^", 0);
        Checks.groundFault("ground 2 2;thing 1 9 1 1 ^1", 0);
        Checks.groundFault("ground 2 2;lesson 1;after 0^", 0);
        Checks.groundFault("ground 2 2^" + (char) 0, 0);
        Checks.groundFault("ground 2 2^" + (char) 200, 0);
    }

    private static void groundNumbers() {
        Checks.groundFault("ground ^1 2", 1);
        Checks.groundFault("ground ^9 2", 1);
        Checks.groundFault("ground 2 ^1", 1);
        Checks.groundFault("ground 2 ^7", 1);
        Checks.groundFault("ground ^000002 2", 1);
        Checks.groundFault("ground ^22", 1);
        Checks.groundFault("ground 2 2;person ^4 0", 1);
        Checks.groundFault("ground 2 2;person 3 ^10", 1);
        Checks.groundFault("ground 2 2;thing ^4 9 1 1", 1);
        Checks.groundFault("ground 2 2;thing 0 ^0 1 1", 1);
        Checks.groundFault("ground 2 2;person 0 0;thing 0 ^1 1 1", 1);
        Checks.groundFault("ground 2 2;person 0 0;thing 0 ^8 1 1", 1);
        Checks.groundFault("ground 2 2;thing 0 ^10 1 1", 1);
        Checks.groundFault("ground 2 2;thing 0 9 ^0 1", 1);
        Checks.groundFault("ground 2 2;thing 0 9 ^31 1", 1);
        Checks.groundFault("ground 2 2;thing 0 9 30 ^61", 1);
        Checks.groundFault("ground 2 2;net ^4", 1);
        Checks.groundFault("ground 2 2;net 1;net ^1", 1);
        Checks.groundFault("ground 2 2;lesson ^0", 1);
        Checks.groundFault("ground 2 2;lesson ^21", 1);
        Checks.groundFault("ground 2 2;after ^0 0", 1);
        Checks.groundFault("ground 2 2;lesson 1;after ^1 0", 1);
        Checks.groundFault("ground 2 2;lesson 1;after 0 ^1", 1);
        Checks.groundFault("ground 2 2;lesson 1;after 0 ^0", 1);
        Checks.groundFault("ground 2 2;lesson 1;after 0 ^00001;x", 1);
        Checks.groundFault("ground 2 2;net ^99999999999999999999", 1);
    }

    private static void groundCounts() {
        Checks.groundFault("^row 12;ground 2 2", 4);
        Checks.groundFault(" ^after", 4);
        Checks.groundFault("ground 2 2;^ground", 4);
        Checks.groundFault("ground 2 2;row 12;row 12;^row", 4);
        Checks.groundFault("ground 2 2" + ";person 0 0".repeat(5) + "; ^person 0 0", 4);
        Checks.groundFault("ground 2 2" + ";thing 0 9 1 1".repeat(8) + ";^thing", 4);
        Checks.groundFault("ground 2 2" + ";net 0;net 1;net 2;net 3" + ";^net 0", 4);
        Checks.groundFault("ground 2 2" + ";lesson 1".repeat(8) + ";^lesson 1", 4);
        Checks.groundFault("ground 2 2;lesson 1;lesson 1" + ";after 0 1".repeat(10) + ";^after", 4);
        Checks.groundFault(limitGround() + ";^thing 0 9 1 1", 4);
    }

    private static void soundRules() {
        Checks.soundRule("break 1=1");
        Checks.soundRule("mark 0");
        Checks.soundRule("mark 99999 - 00000");
        Checks.soundRule(" break not not [ force >= hard and [ own = 0 or soft<3 ] ] ; mark worth*2 - drop/step%height if people>0");
        Checks.soundRule("mark1if1=1or2<3and4>5");
        Checks.soundRule("break person+thing+force+drop+step+height+hard+worth+own+broken+soft+people<=0");
        Checks.soundRule("break " + "[".repeat(10) + "1=1" + "]".repeat(10));
        Checks.soundRule("break " + "not ".repeat(10) + "1=1");
        Checks.soundRule("break " + "[not ".repeat(5) + "1=1" + "]".repeat(5) + " or " + "[".repeat(10) + "1=1" + "]".repeat(10));
        Checks.soundRule("mark 1" + "+1".repeat(59));
        Checks.soundRule("break 1=1" + " or 1=1".repeat(19));
        Checks.soundRule("mark 1" + ";mark 1".repeat(11));
    }

    private static void rulesThatCantStand() {
        Checks.ruleFault("^", 0);
        Checks.ruleFault("^breaks 1=1", 0);
        Checks.ruleFault("^if 1=1", 0);
        Checks.ruleFault("break^", 0);
        Checks.ruleFault("break 1^", 0);
        Checks.ruleFault("break 1 ^;", 0);
        Checks.ruleFault("break 1=^", 0);
        Checks.ruleFault("break 1=1^=1", 0);
        Checks.ruleFault("break 1=^=1", 0);
        Checks.ruleFault("break 1<^>1", 0);
        Checks.ruleFault("break 1=^>1", 0);
        Checks.ruleFault("break 1< ^=1", 0);
        Checks.ruleFault("break 1^!1", 0);
        Checks.ruleFault("break 1=1 ^if 1=1", 0);
        Checks.ruleFault("break 1=1 ^]", 0);
        Checks.ruleFault("break [1=1^", 0);
        Checks.ruleFault("break [1=1^;mark 1", 0);
        Checks.ruleFault("break [^]", 0);
        Checks.ruleFault("break [1^]", 0);
        Checks.ruleFault("break [1=1]^=1", 0);
        Checks.ruleFault("break 1=^[1]", 0);
        Checks.ruleFault("break 1=^not", 0);
        Checks.ruleFault("break not^", 0);
        Checks.ruleFault("break ^nota=1", 0);
        Checks.ruleFault("break ^and 1=1", 0);
        Checks.ruleFault("break 1=1 and^", 0);
        Checks.ruleFault("break 1=1 ^andor 1=1", 0);
        Checks.ruleFault("break 1=1 or ^and", 0);
        Checks.ruleFault("break ^forces=1", 0);
        Checks.ruleFault("break force ^drop=1", 0);
        Checks.ruleFault("break 1 ^1=1", 0);
        Checks.ruleFault("break ^-1=1", 0);
        Checks.ruleFault("break ^Own=1", 0);
        Checks.ruleFault("mark^", 0);
        Checks.ruleFault("mark ^;", 0);
        Checks.ruleFault("mark ^if 1=1", 0);
        Checks.ruleFault("mark 1+^", 0);
        Checks.ruleFault("mark 1+^+1", 0);
        Checks.ruleFault("mark 1*^/1", 0);
        Checks.ruleFault("mark 1^=1", 0);
        Checks.ruleFault("mark 1 if^", 0);
        Checks.ruleFault("mark 1 if 1=1 ^if 1=1", 0);
        Checks.ruleFault("mark 1 ^and 1=1", 0);
        Checks.ruleFault("mark ^[1]", 0);
        Checks.ruleFault("mark 1;^", 0);
        Checks.ruleFault("mark 1;^;", 0);
        Checks.ruleFault("mark 1^,", 0);
        Checks.ruleFault("mark 1^" + (char) 9 + "+1", 0);
    }

    private static void ruleNumbersAndDepth() {
        Checks.ruleFault("mark ^100000", 1);
        Checks.ruleFault("mark 1+^000000", 1);
        Checks.ruleFault("break ^999999999999999999999=1", 1);
        Checks.ruleFault("break " + "[".repeat(10) + "^[1=1", 2);
        Checks.ruleFault("break " + "not ".repeat(10) + "^not 1=1", 2);
        Checks.ruleFault("break " + "[not ".repeat(5) + "^not 1=1", 2);
        Checks.ruleFault("break " + "not [".repeat(5) + " ^[1=1", 2);
        Checks.ruleFault("break " + "[".repeat(10) + "1=1" + "]".repeat(10) + " and " + "[".repeat(10) + "^[1=1", 2);
        Checks.ruleFault("break " + "[".repeat(10) + "^nota=1", 0);
    }

    private static void ruleParts() {
        Checks.ruleFault("mark 1" + "+1".repeat(59) + "+^1", 3);
        Checks.ruleFault("mark 1" + "+1".repeat(59) + "+^worth", 3);
        Checks.ruleFault("break 1=1" + " or 1=1".repeat(19) + " or ^1=1", 3);
        Checks.ruleFault("mark 1" + "+1".repeat(57) + " if 1 = ^1", 3);
        Checks.ruleFault("mark 1" + "+1".repeat(58) + " if 1 ^<= 1", 3);
        Checks.ruleFault("mark 1" + "+1".repeat(29) + ";mark 1" + "+1".repeat(29) + ";mark ^1", 3);
    }

    private static void ruleClauses() {
        Checks.ruleFault("mark 1" + ";mark 1".repeat(11) + "; ^break 1=1", 4);
        Checks.ruleFault("break 1=1" + ";mark 1".repeat(11) + ";^mark", 4);
    }

    private static void leastOfOnePlace() {
        Checks.groundFault(limitGround() + ";^things", 0);
        Checks.groundFault(limitGround() + ";^", 0);
        Checks.groundFault(limitGround() + ";^ground 2 2", 4);
        Checks.ruleFault("mark 1" + ";mark 1".repeat(11) + ";^marks", 0);
        Checks.ruleFault("mark 1" + ";mark 1".repeat(11) + ";^", 0);
        Checks.ruleFault("mark 1" + "+1".repeat(59) + "+^100000", 1);
        Checks.ruleFault("mark 1" + "+1".repeat(59) + "+^hardy", 0);
        Checks.ruleFault("mark 1" + "+1".repeat(59) + "+^", 0);
        Checks.ruleFault("mark 1" + "+1".repeat(59) + " if not ^1=1", 3);
    }

    private static void ground(String text, int due) {
        Checks.is(text, Checks.ground(new FallSchool(), text), due);
    }
}
