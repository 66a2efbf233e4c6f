import java.lang.reflect.InvocationTargetException;
import java.lang.reflect.Method;
import java.lang.reflect.Modifier;
import java.util.Arrays;
import java.util.Comparator;

/** What several tests have in common: texts told to an object, answers compared, all of a class's tests run. */
final class Checks {
    static final int LEAST = Integer.MIN_VALUE;
    static final int MOST = Integer.MAX_VALUE;

    private static int wrong = 0;
    private static String running = "";

    private Checks() {
    }

    /** Each static method that takes nothing and answers nothing is a test: none can be forgotten. */
    static void runAll(Class<?> tests) {
        Method[] methods = tests.getDeclaredMethods();
        Arrays.sort(methods, Comparator.comparing(Method::getName));
        int ran = 0;
        for (Method method : methods) {
            boolean isTest = method.getParameterCount() == 0 && method.getReturnType() == void.class;
            if (isTest && Modifier.isStatic(method.getModifiers())) {
                run(method);
                ran++;
            }
        }
        System.out.println(ran + " tests, " + wrong + " answers are not as due");
        if (wrong != 0 || ran == 0) {
            System.exit(1);
        }
    }

    private static void run(Method method) {
        running = method.getName();
        method.setAccessible(true);
        try {
            method.invoke(null);
        } catch (InvocationTargetException | IllegalAccessException thrown) {
            wrong++;
            System.out.println(running + ": threw " + thrown.getCause());
        }
    }

    static void is(String what, long got, long due) {
        if (got != due) {
            wrong++;
            System.out.println(running + ": " + what + ": answered " + got + ", due is " + due);
        }
    }

    static void is(String what, boolean got, boolean due) {
        is(what, got ? 1 : 0, due ? 1 : 0);
    }

    static void same(String what, String got, String due) {
        if (!got.equals(due)) {
            wrong++;
            System.out.println(running + ": " + what + ": " + got + ", due is " + due);
        }
    }

    /** The tape is this text, whatever it was. */
    static void tape(FallSchool s, String text) {
        s.end(0);
        for (int start = 0; start < text.length(); start += 20) {
            int[] five = new int[5];
            for (int i = 0; i < 20; i++) {
                int sign = start + i < text.length() ? text.charAt(start + i) & 255 : 0;
                five[i / 4] = five[i / 4] << 8 | sign;
            }
            s.feed(five[0], five[1], five[2], five[3], five[4]);
        }
        is("the tape takes " + text, s.end(text.length()), text.length());
    }

    static int ground(FallSchool s, String text) {
        tape(s, text);
        return s.ground();
    }

    static int rule(FallSchool s, String text) {
        tape(s, text);
        return s.rule();
    }

    /** An object with that ground, which must be sound. */
    static FallSchool school(String text) {
        FallSchool s = new FallSchool();
        is("sound: " + text, ground(s, text) >= 4, true);
        return s;
    }

    /** An object with that ground and a rule in force. */
    static FallSchool school(String text, String rule) {
        FallSchool s = school(text);
        is("sound: " + rule, rule(s, rule), 0);
        is("in force", s.force(0), -1);
        return s;
    }

    /** A ^ in the text marks the place of its fault, and is not a part of it. */
    static void groundFault(String marked, int kind) {
        FallSchool s = new FallSchool();
        is(marked, ground(s, marked.replace("^", "")), -2 - (1 + 8 * marked.indexOf('^') + kind));
        is("no ground by " + marked, s.count(0), 0);
        is("an empty tape behind " + marked, s.count(13), 0);
    }

    static void ruleFault(String marked, int kind) {
        FallSchool s = new FallSchool();
        is(marked, rule(s, marked.replace("^", "")), -2 - (1 + 8 * marked.indexOf('^') + kind));
        is("no rule by " + marked, s.count(7), 0);
        is("an empty tape behind " + marked, s.count(13), 0);
    }

    static void soundRule(String text) {
        FallSchool s = new FallSchool();
        is("sound: " + text, rule(s, text), 0);
        is("it is there: " + text, s.count(7), 1);
    }

    /**
     * All that can change in an object, with what lies behind each act that can be undone. It uses image 3, so that who
     * asks for it makes no image 3. An object has 512 calls in all: it asks for no more than it needs.
     */
    static String sight(FallSchool s) {
        StringBuilder seen = new StringBuilder();
        for (int what = 0; what < 14; what++) {
            seen.append(s.count(what)).append(' ');
        }
        seen.append("from ").append(s.from(0, 0)).append(' ').append(s.from(0, 1)).append(' ').append(places(s));
        s.image(3);
        while (s.undo() >= 0) {
            seen.append(" < ").append(places(s));
        }
        s.back(3);
        return seen.toString();
    }

    /** Where all people and things are, and which are broken. */
    static String places(FallSchool s) {
        StringBuilder seen = new StringBuilder("people");
        int people = s.count(2);
        for (int person = 0; person < people; person++) {
            seen.append(' ').append(s.person(person, 0));
        }
        seen.append(" things");
        int things = s.count(3);
        for (int thing = 0; thing < things; thing++) {
            seen.append(' ').append(s.thing(thing, 0));
        }
        return seen.append(" broken ").append(s.count(9)).toString();
    }
}
