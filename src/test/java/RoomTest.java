import java.lang.management.ManagementFactory;
import java.lang.reflect.InvocationTargetException;
import java.lang.reflect.Method;
import java.lang.reflect.Modifier;
import java.util.ArrayList;
import java.util.Comparator;
import java.util.List;
import java.util.Random;

/** Any arguments in any state: no call throws, and even a run of the dearest calls needs little room. */
public final class RoomTest {
    private static final int[] EDGES = {Integer.MIN_VALUE, -1000, -4, -3, -2, -1, 0, 1, 2, 3, 4, 5, 6, 7, 8, 9, 19, 20, 21,
        39, 40, 41, 47, 48, 60, 61, 400, 401, 1 << 30, Integer.MAX_VALUE};
    private static final String HEAVY_GROUND = "ground 8 6;row 23456543;row 34567654;row 45679865;row 34567654;row 23456543"
            + ";row 12345432;person20 0;person19 0;person28 1;person21 0;person12 0;thing19 9 1 9;thing21 9 1 9"
            + ";thing19 9 1 9;thing21 9 1 9;thing28 9 1 9;thing12 9 1 9;thing28 9 1 9;thing12 9 1 9;lesson1;lesson1;after1 0";
    private static final String HEAVY_RULE = "break " + "[".repeat(9) + "not force=1+2*3-4/5%6+hard*worth" + "]".repeat(9)
            + ";mark drop*step*height if soft<people and own=0;mark 1+1+1+1+1+1+1+1+1+1+1+1+1+1+1+1+1+1+1+1+1+1+1+1+1+1+1";
    private static int wrong = 0;

    public static void main(String[] args) throws IllegalAccessException {
        List<Method> face = new ArrayList<>();
        for (Method method : FallSchool.class.getDeclaredMethods()) {
            if (Modifier.isPublic(method.getModifiers())) {
                face.add(method);
            }
        }
        face.sort(Comparator.comparing(Method::getName));
        is("methods of the face", face.size(), 30);
        anyArguments(face);
        noise(face);
        for (Method method : face) {
            dearestRun(method);
        }
        System.out.println(wrong == 0 ? "no call throws, and all fit the room" : wrong + " are not as due");
        if (wrong != 0) {
            System.exit(1);
        }
    }

    private static void anyArguments(List<Method> face) throws IllegalAccessException {
        Random random = new Random(5);
        for (int run = 0; run < 400; run++) {
            FallSchool school = run % 4 == 0 ? new FallSchool() : heavy();
            for (int i = 0; i < 460; i++) {
                Method method = face.get(random.nextInt(face.size()));
                if (method.getName().equals("terms") && random.nextInt(5) != 0) {
                    continue;
                }
                call(school, method, random);
            }
        }
    }

    /** Texts of signs at random, most of which belong to the languages. */
    private static void noise(List<Method> face) throws IllegalAccessException {
        Random random = new Random(6);
        String[] signs = {"ground 2 2;", "row ", "person ", "thing ", "net ", "lesson ", "after ", ";", " ", "0", "1", "99999", "break ",
            "mark ", "if ", "not ", "[", "]", "and ", "or ", "force", "own", "+", "*", "/", "%", "-", "<", "<=", "=", "\u00ff", "x"};
        for (int run = 0; run < 3000; run++) {
            FallSchool school = new FallSchool();
            StringBuilder text = new StringBuilder(random.nextBoolean() ? "break " : "ground 3 2;");
            for (int i = random.nextInt(200); i > 0; i--) {
                text.append(signs[random.nextInt(signs.length)]);
            }
            Checks.tape(school, text.length() > 400 ? text.substring(0, 400) : text.toString());
            int answer = text.charAt(0) == 'b' ? school.rule() : school.ground();
            school.force(0);
            for (int i = 0; i < 30 && answer >= 0; i++) {
                call(school, face.get(random.nextInt(face.size())), random);
            }
        }
    }

    private static void call(FallSchool school, Method method, Random random) throws IllegalAccessException {
        Object[] values = new Object[method.getParameterCount()];
        for (int i = 0; i < values.length; i++) {
            values[i] = method.getParameterTypes()[i] == boolean.class ? (Object) random.nextBoolean()
                    : (Object) EDGES[random.nextInt(4) == 0 ? random.nextInt(EDGES.length) : 5 + random.nextInt(7)];
        }
        try {
            method.invoke(school, values);
        } catch (InvocationTargetException thrown) {
            wrong++;
            System.out.println(method.getName() + " threw " + thrown.getCause());
        }
    }

    /** 512 calls of one kind, with arguments that make it work hardest. */
    private static void dearestRun(Method method) throws IllegalAccessException {
        FallSchool warm = heavy();
        repeat(warm, method, 2);
        com.sun.management.ThreadMXBean bean = (com.sun.management.ThreadMXBean) ManagementFactory.getThreadMXBean();
        long before = bean.getThreadAllocatedBytes(Thread.currentThread().getId());
        repeat(heavy(), method, 512);
        long bytes = bean.getThreadAllocatedBytes(Thread.currentThread().getId()) - before;
        // The whole room has some 7.3 million fields and elements; these are at most a tenth of it.
        if (bytes > 3_000_000) {
            wrong++;
            System.out.println("512 calls of " + method.getName() + " make " + bytes + " bytes");
        }
    }

    private static void repeat(FallSchool school, Method method, int times) throws IllegalAccessException {
        for (int i = 0; i < times; i++) {
            switch (method.getName()) {
                case "ground", "rule" -> {
                    school.feed(0x67726f75, 0x6e642038, 0x20362020, 0x20202020, 0x20202020);
                    if (method.getName().equals("ground")) {
                        school.ground();
                    } else {
                        school.rule();
                    }
                }
                case "feed" -> {
                    school.feed(i, i, i, i, i);
                    school.end(0);
                }
                case "end" -> school.end(0);
                case "mend" -> {
                    school.fall(0, 4);
                    school.mend(1);
                }
                case "terms" -> school.terms(20, 40, 0);
                case "chance" -> school.chance(20, 0, 0);
                case "trays" -> school.trays(3, 0);
                case "clue" -> school.clue(0, true);
                case "undo" -> school.undo();
                case "lean" -> school.lean(0);
                case "would" -> school.would(0, i % 5, 0);
                case "put" -> school.put(0, i % 48);
                case "image" -> school.image(i % 4);
                case "back" -> {
                    school.image(i % 4);
                    school.back(i % 4);
                }
                case "way" -> school.way(0, -1);
                case "from" -> school.from(0, 0);
                case "shard" -> school.shard(0, 0);
                case "insure" -> school.insure(0, 1);
                case "game" -> school.game(20, 0);
                case "fall" -> {
                    school.fall(0, i % 5);
                    school.undo();
                }
                default -> call(school, method, new Random(i));
            }
        }
    }

    private static FallSchool heavy() {
        FallSchool school = new FallSchool();
        Checks.tape(school, HEAVY_RULE);
        is("the heavy rule", school.rule(), 0);
        Checks.tape(school, HEAVY_GROUND);
        is("the heavy ground", school.ground(), 48);
        school.force(0);
        return school;
    }

    private static void is(String what, long got, long due) {
        if (got != due) {
            wrong++;
            System.out.println(what + ": " + got + ", due is " + due);
        }
    }
}
