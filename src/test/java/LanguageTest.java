import java.io.IOException;
import java.lang.reflect.Field;
import java.lang.reflect.Method;
import java.lang.reflect.Modifier;
import java.nio.file.Files;
import java.nio.file.Path;
import java.util.ArrayList;
import java.util.List;
import java.util.TreeSet;
import java.util.regex.Matcher;
import java.util.regex.Pattern;

/** The rules of ../shared/LANGUAGE.md that can be read off the source or the class. */
public final class LanguageTest {
    private static final Path SOURCE = Path.of("src/main/java/FallSchool.java");
    private static int wrong = 0;

    public static void main(String[] args) throws IOException {
        String text = Files.readString(SOURCE);
        String bare = withoutCommentsAndTexts(text);
        words(text, bare);
        methods(bare);
        face();
        classesInside();
        System.out.println(wrong == 0 ? "the language is kept to" : wrong + " breaches of the language");
        if (wrong != 0) {
            System.exit(1);
        }
    }

    private static void words(String text, String bare) {
        for (String word : List.of("throw", "throws", "try", "catch", "synchronized", "assert", "package", "lambda", "var",
                "native", "volatile", "hashCode", "toString", "Exception", "Object", "System.out", "Random", "Thread")) {
            check("no " + word, !Pattern.compile("\\b" + Pattern.quote(word) + "\\b").matcher(bare).find());
        }
        check("no lambda and no method reference", !bare.contains("->") && !bare.contains("::"));
        check("no static block", !Pattern.compile("static\\s*\\{").matcher(bare).find());
        check("no sign above 127", text.chars().allMatch(sign -> sign < 128));
        Matcher imports = Pattern.compile("import ([^;]*);").matcher(bare);
        while (imports.find()) {
            check("import " + imports.group(1), List.of("java.util.Arrays", "java.util.ArrayList", "java.util.List")
                    .contains(imports.group(1)));
        }
        Matcher calls = Pattern.compile("\\b(Math|Integer|Long|Arrays|System)\\.(\\w+)").matcher(bare);
        while (calls.find()) {
            check("library: " + calls.group(), List.of("Math.max", "Math.min", "Math.abs", "Integer.bitCount", "Long.bitCount",
                    "Arrays.fill", "Arrays.copyOf", "System.arraycopy").contains(calls.group()));
        }
    }

    private static void methods(String bare) {
        String[] lines = bare.split("\n", -1);
        int start = -1;
        String head = "";
        for (int i = 0; i < lines.length; i++) {
            if (lines[i].matches("\\s+[\\w \\[\\]]+\\([^;=]*\\) \\{") && !lines[i].matches("\\s+(if|for|while|switch|\\} ?else).*")) {
                start = i;
                head = lines[i];
                String inside = head.substring(head.indexOf('(') + 1, head.indexOf(')'));
                check("seven parameters at most: " + head.trim(), inside.split(",").length <= 7);
            }
            if (start >= 0 && lines[i].equals(head.replaceAll("\\S.*", "") + "}")) {
                check("sixty lines at most: " + head.trim(), i - start + 1 <= 60);
                start = -1;
            }
        }
    }

    private static void face() {
        TreeSet<String> names = new TreeSet<>();
        for (Method method : FallSchool.class.getDeclaredMethods()) {
            if (Modifier.isPublic(method.getModifiers())) {
                names.add(method.getName());
            } else {
                check("private: " + method.getName(), Modifier.isPrivate(method.getModifiers()));
            }
        }
        check("thirty methods", names.size() == 30);
        for (Class<?> inside : FallSchool.class.getDeclaredClasses()) {
            for (Method method : inside.getDeclaredMethods()) {
                check("another name than the face's: " + method.getName(), !names.contains(method.getName()));
            }
        }
        for (Field field : FallSchool.class.getDeclaredFields()) {
            check("private: " + field.getName(), field.getName().equals("NONE") == Modifier.isPublic(field.getModifiers())
                    && (field.getName().equals("NONE") || Modifier.isPrivate(field.getModifiers())));
        }
        check("final and public", Modifier.isFinal(FallSchool.class.getModifiers()) && Modifier.isPublic(FallSchool.class.getModifiers()));
        check("one constructor", FallSchool.class.getDeclaredConstructors().length == 1);
    }

    private static void classesInside() {
        List<Class<?>> classes = new ArrayList<>(List.of(FallSchool.class.getDeclaredClasses()));
        for (Class<?> inside : classes) {
            check("static: " + inside, Modifier.isStatic(inside.getModifiers()));
        }
        classes.add(FallSchool.class);
        check("twelve classes at most", classes.size() <= 12);
        for (Class<?> one : classes) {
            int fields = 0;
            for (Field field : one.getDeclaredFields()) {
                boolean isStatic = Modifier.isStatic(field.getModifiers());
                fields += isStatic ? 0 : 1;
                check("static fields are final: " + field, !isStatic || Modifier.isFinal(field.getModifiers()));
            }
            check("twenty fields at most: " + one, fields <= 20);
        }
    }

    private static String withoutCommentsAndTexts(String text) {
        String bare = text.replaceAll("\"(\\\\.|[^\"\\\\])*\"", "\"\"").replaceAll("//[^\n]*", "");
        Matcher comments = Pattern.compile("/\\*.*?\\*/", Pattern.DOTALL).matcher(bare);
        return comments.replaceAll(match -> "\n".repeat((int) match.group().chars().filter(sign -> sign == '\n').count()));
    }

    private static void check(String what, boolean holds) {
        if (!holds) {
            wrong++;
            System.out.println("not so: " + what);
        }
    }
}
