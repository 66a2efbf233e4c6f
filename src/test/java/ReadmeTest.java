import java.io.IOException;
import java.lang.reflect.Method;
import java.lang.reflect.Modifier;
import java.nio.file.Files;
import java.nio.file.Path;
import java.util.regex.Matcher;
import java.util.regex.Pattern;

/** What README.md shows is so: its calls answer what stands beside them, and it leaves no call of the face out. */
public final class ReadmeTest {
    private static final Path README = Path.of("README.md");
    private static final Path THIS = Path.of("src/test/java/ReadmeTest.java");
    private static final Pattern BLOCK = Pattern.compile("```java\n(.*?)```", Pattern.DOTALL);
    private static final Pattern TELL = Pattern.compile("tell\\(school, \"([^\"]*)\"\\);");
    private static final Pattern CALL = Pattern.compile("school\\.(\\w+)\\(([^)]*)\\); +// (-?\\d+|true|false): .*");
    private static final Pattern TABLE_NAME = Pattern.compile("`(\\w+)`");

    public static void main(String[] args) {
        Checks.runAll(ReadmeTest.class);
    }

    private static void callsAnswerWhatStandsBesideThem() throws IOException, ReflectiveOperationException {
        FallSchool school = null;
        int calls = 0;
        Matcher block = BLOCK.matcher(Files.readString(README));
        while (block.find()) {
            if (block.group(1).startsWith("static ")) {
                continue;
            }
            for (String line : block.group(1).split("\n")) {
                Matcher tell = TELL.matcher(line);
                Matcher call = CALL.matcher(line);
                if (line.equals("FallSchool school = new FallSchool();")) {
                    school = new FallSchool();
                } else if (tell.matches()) {
                    tell(school, tell.group(1));
                } else if (call.matches()) {
                    Checks.same(line, answer(school, call.group(1), call.group(2)), call.group(3));
                    calls++;
                } else {
                    Checks.same("a line that no one can read", line, "");
                }
            }
        }
        Checks.is("there are calls", calls > 20, true);
    }

    private static void textsAreToldAsItSays() throws IOException {
        String readme = Files.readString(README);
        String source = Files.readString(THIS).replace("\n    ", "\n").replace("private static", "static");
        Matcher block = BLOCK.matcher(readme);
        Checks.is("there is a first block", block.find(), true);
        Checks.is("tell is the one here", source.contains("\n" + block.group(1)), true);
    }

    private static void everyCallIsInTheTable() throws IOException {
        StringBuilder names = new StringBuilder(" ");
        for (String line : Files.readString(README).split("\n")) {
            if (line.startsWith("| `")) {
                Matcher name = TABLE_NAME.matcher(line.split("\\|")[1]);
                while (name.find()) {
                    names.append(name.group(1)).append(' ');
                }
            }
        }
        int many = 0;
        for (Method method : FallSchool.class.getDeclaredMethods()) {
            if (Modifier.isPublic(method.getModifiers())) {
                Checks.is("the table has " + method.getName(), names.indexOf(" " + method.getName() + " ") >= 0, true);
                many++;
            }
        }
        Checks.is("and no other name", names.toString().trim().split(" ").length, many);
    }

    private static void everyTestIsListed() throws IOException {
        String readme = Files.readString(README);
        try (var files = Files.list(THIS.getParent())) {
            for (Path file : files.sorted().toList()) {
                String name = file.getFileName().toString().replace(".java", "");
                Checks.is("the list of tests has " + name, readme.contains("`" + name + "`"), true);
            }
        }
    }

    private static String answer(FallSchool school, String name, String arguments) throws ReflectiveOperationException {
        for (Method method : FallSchool.class.getDeclaredMethods()) {
            if (method.getName().equals(name) && Modifier.isPublic(method.getModifiers())) {
                Object[] values = new Object[method.getParameterCount()];
                String[] told = arguments.split(", ");
                for (int i = 0; i < values.length; i++) {
                    boolean isFlag = method.getParameterTypes()[i] == boolean.class;
                    values[i] = isFlag ? (Object) Boolean.valueOf(told[i]) : (Object) Integer.valueOf(told[i]);
                }
                return String.valueOf(method.invoke(school, values));
            }
        }
        return "no such call";
    }

    private static void tell(FallSchool school, String text) {
        school.end(0);
        for (int start = 0; start < text.length(); start += 20) {
            int[] five = new int[5];
            for (int i = 0; i < 20; i++) {
                int sign = start + i < text.length() ? text.charAt(start + i) : 0;
                five[i / 4] = five[i / 4] << 8 | sign;
            }
            school.feed(five[0], five[1], five[2], five[3], five[4]);
        }
        school.end(text.length());
    }
}
