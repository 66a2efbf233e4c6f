import java.io.IOException;
import java.lang.reflect.Constructor;
import java.lang.reflect.Field;
import java.lang.reflect.Method;
import java.lang.reflect.Modifier;
import java.nio.file.Files;
import java.nio.file.Path;
import java.util.Arrays;
import java.util.TreeSet;
import java.util.stream.Collectors;

/** The public face, line by line as the document tells it, and how long an object can be used. */
public final class FaceTest {
    private static final Path DOCUMENT = Path.of("../shared/DOC.md");
    private static final Path SOURCE = Path.of("src/main/java/FallSchool.java");
    private static final int CALLS = 512;
    private static final String[] FACE = {
        "public static final int NONE = -1;",
        "public FallSchool();",
        "public int feed(int a, int b, int c, int d, int e);",
        "public int end(int n);",
        "public int ground();",
        "public int rule();",
        "public int force(int rule);",
        "public int cell(int cell, int what);",
        "public int person(int person, int what);",
        "public int thing(int thing, int what);",
        "public int fall(int person, int side);",
        "public int walk(int person, int side);",
        "public int put(int thing, int cell);",
        "public boolean mend(int thing);",
        "public int undo();",
        "public int would(int person, int side, int what);",
        "public int lean(int person);",
        "public int way(int person, int what);",
        "public int clue(int thing, boolean broke);",
        "public int from(int person, int what);",
        "public int shard(int person, int what);",
        "public int trays(int n, int what);",
        "public int game(int cell, int what);",
        "public long chance(int cell, int other, int part);",
        "public int insure(int person, int price);",
        "public int lesson(int lesson);",
        "public int order(int k);",
        "public int seed(int x);",
        "public int terms(int m, int n, int what);",
        "public int count(int what);",
        "public int image(int k);",
        "public int back(int k);",
    };

    public static void main(String[] args) {
        Checks.runAll(FaceTest.class);
    }

    /** The list here is the document's own, wherever that is at hand. */
    private static void theListIsTheDocuments() throws IOException {
        if (!Files.isReadable(DOCUMENT)) {
            return;
        }
        String document = Files.readString(DOCUMENT);
        String face = document.substring(document.indexOf("```java"), document.indexOf("## Terms"));
        Checks.is("a public final class", face.contains("\npublic final class FallSchool {\n"), true);
        String told = face.lines().filter(line -> line.startsWith("    ")).map(String::trim).collect(Collectors.joining("\n"));
        Checks.same("the document's face", told, String.join("\n", FACE));
    }

    private static void theSourceHasEachLine() throws IOException {
        String source = Files.readString(SOURCE);
        for (String line : FACE) {
            String due = line.endsWith(");") ? line.replace(");", ") {") : line;
            Checks.is(line, source.contains("\n    " + due + "\n"), true);
        }
    }

    private static void nothingElseIsPublic() {
        TreeSet<String> due = new TreeSet<>();
        for (String line : FACE) {
            due.add(line.replaceAll("(int|long|boolean) \\w+(?=[,)])", "$1").replaceAll(" = .*|;", ""));
        }
        TreeSet<String> seen = new TreeSet<>();
        for (Method method : FallSchool.class.getDeclaredMethods()) {
            if (!Modifier.isPrivate(method.getModifiers())) {
                seen.add(Modifier.toString(method.getModifiers()) + " " + method.getReturnType() + " " + method.getName()
                        + types(method.getParameterTypes()));
            }
        }
        for (Constructor<?> constructor : FallSchool.class.getDeclaredConstructors()) {
            seen.add(Modifier.toString(constructor.getModifiers()) + " FallSchool" + types(constructor.getParameterTypes()));
        }
        for (Field field : FallSchool.class.getDeclaredFields()) {
            if (!Modifier.isPrivate(field.getModifiers())) {
                seen.add(Modifier.toString(field.getModifiers()) + " " + field.getType() + " " + field.getName());
            }
        }
        Checks.same("what is not private", String.join("\n", seen), String.join("\n", due));
    }

    private static String types(Class<?>[] types) {
        return Arrays.stream(types).map(Class::toString).collect(Collectors.joining(", ", "(", ")"));
    }

    /** "An object is used for at most 512 calls after it has been made": up to the last of them it answers as at first. */
    private static void anObjectAnswersUpToItsLastCall() {
        FallSchool s = new FallSchool();
        int calls = 0;
        // An end, six feeds, another end, and the ground that is made of them.
        Checks.tape(s, "ground 3 2;row 952;row 841;person 0 1;person 4 0;thing 4 9 4 20;thing 5 1 2 7;net 2;lesson 3;lesson 2;after 0 1");
        Checks.is("ground", s.ground(), 6);
        calls += 9;
        while (calls + 4 < CALLS) {
            Checks.is("fall, call " + calls, s.fall(0, 2), 93);
            Checks.is("mend, call " + calls, s.mend(1), true);
            Checks.is("undo, call " + calls, s.undo(), 1);
            Checks.is("undo, call " + calls, s.undo(), 0);
            calls += 4;
        }
        while (calls + 1 < CALLS) {
            Checks.is("fall, call " + calls, s.fall(0, 2) >= 93, true);
            calls++;
        }
        Checks.is("the last call", s.thing(1, 4), 1);
    }
}
