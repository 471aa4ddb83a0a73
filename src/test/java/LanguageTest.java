import java.io.IOException;
import java.lang.reflect.Executable;
import java.lang.reflect.Field;
import java.lang.reflect.Method;
import java.lang.reflect.Modifier;
import java.nio.file.Files;
import java.nio.file.Path;
import java.util.ArrayList;
import java.util.List;
import java.util.Set;
import java.util.regex.Matcher;
import java.util.regex.Pattern;

/** Those rules of LANGUAGE.md that can be seen from the file's words and the classes' members. */
public final class LanguageTest {
    private static final Check CHECK = new Check("LanguageTest");
    private static final Path FILE = Path.of("src/main/java/RunwayDesk.java");
    private static final Set<String> IMPORTS =
            Set.of("java.util.Arrays", "java.util.NoSuchElementException");
    /** Calls of the library that rule 4 lists; the class needs no others. */
    private static final Set<String> LIBRARY =
            Set.of("Arrays.fill", "Math.max", "Math.abs", "System.arraycopy");
    private static final Set<Class<?>> FIELDS =
            Set.of(int.class, int[].class, int[][].class, boolean[].class);
    private static final String[] RULED_OUT = {"->", "::", "package ", "finally", "synchronized",
        "assert ", "hashCode", "getMessage", "static {", "protected "};

    public static void main(String[] args) throws IOException {
        String code = Files.readString(FILE).replaceAll("(?s)/\\*.*?\\*/", "").replaceAll("//[^\n]*", "");
        words(code);
        library(code);
        exceptions(code);
        lengths(code);
        List<Class<?>> classes = new ArrayList<>(List.of(RunwayDesk.class.getDeclaredClasses()));
        classes.add(RunwayDesk.class);
        CHECK.isTrue("at most twelve classes", classes.size() <= 12);
        for (Class<?> one : classes) {
            members(one);
        }
        CHECK.end();
    }

    private static void words(String code) {
        for (String word : RULED_OUT) {
            CHECK.isTrue("the class uses " + word, !code.contains(word));
        }
        Matcher line = Pattern.compile("import ([^;]+);").matcher(code);
        while (line.find()) {
            CHECK.isTrue("the class imports " + line.group(1), IMPORTS.contains(line.group(1)));
        }
    }

    private static void library(String code) {
        Matcher call = Pattern.compile("\\b([A-Z][a-z]\\w*\\.\\w+)\\(").matcher(code);
        while (call.find()) {
            CHECK.isTrue("the class calls " + call.group(1), LIBRARY.contains(call.group(1)));
        }
    }

    private static void exceptions(String code) {
        Matcher thrown = Pattern.compile("\\bthrow ([^;]*);").matcher(code);
        Pattern due = Pattern.compile("new (IllegalArgument|IllegalState|IndexOutOfBounds|NoSuchElement)"
                + "Exception\\(\\)");
        while (thrown.find()) {
            CHECK.isTrue("the class throws " + thrown.group(1), due.matcher(thrown.group(1)).matches());
        }
    }

    private static void lengths(String code) {
        Matcher method = Pattern.compile("(?m)^( {4}| {8})(?! )[^;={}]*\\([^;={}]*\\{\n(?s:.*?)^\\1\\}")
                .matcher(code);
        int methods = 0;
        while (method.find()) {
            methods++;
            CHECK.isTrue("longer than sixty lines: " + method.group(),
                    method.group().split("\n").length <= 60);
        }
        CHECK.isTrue("the class has methods", methods > 20);
    }

    private static void members(Class<?> one) {
        int fields = 0;
        for (Field field : one.getDeclaredFields()) {
            boolean isConstant = Modifier.isStatic(field.getModifiers());
            fields += isConstant ? 0 : 1;
            CHECK.isTrue(field + " is a final int if it is static", !isConstant
                    || field.getType() == int.class && Modifier.isFinal(field.getModifiers()));
            CHECK.isTrue(field + " has a type that the rules leave", FIELDS.contains(field.getType())
                    || field.getType().getEnclosingClass() == RunwayDesk.class);
        }
        CHECK.isTrue(one + " has at most twenty fields", fields <= 20);
        List<Executable> calls = new ArrayList<>(List.of(one.getDeclaredMethods()));
        calls.addAll(List.of(one.getDeclaredConstructors()));
        for (Executable call : calls) {
            CHECK.isTrue(call + " takes at most seven", call.getParameterCount() <= 7);
        }
        if (one != RunwayDesk.class) {
            for (Method method : one.getDeclaredMethods()) {
                CHECK.isTrue(method + " bears no name of the face", isNoNameOfTheFace(method.getName()));
            }
        }
    }

    private static boolean isNoNameOfTheFace(String name) {
        for (Method method : RunwayDesk.class.getDeclaredMethods()) {
            if (Modifier.isPublic(method.getModifiers()) && method.getName().equals(name)) {
                return false;
            }
        }
        return true;
    }
}
