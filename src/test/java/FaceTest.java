import java.lang.reflect.Constructor;
import java.lang.reflect.Field;
import java.lang.reflect.Method;
import java.lang.reflect.Modifier;
import java.util.Arrays;
import java.util.Set;
import java.util.TreeSet;
import java.util.stream.Collectors;

/** The class has the document's face, and rule 1 of LANGUAGE.md: nothing else is to be seen. */
public final class FaceTest {
    private static final String[] FACE = {
        "int gap(int,int,int) IllegalArgumentException",
        "int add(int,int,int,int,int) IllegalArgumentException,IllegalStateException",
        "int remove(int) NoSuchElementException",
        "int retarget(int,int) NoSuchElementException,IllegalArgumentException",
        "int limit(int) IllegalArgumentException",
        "int close(int,int) IllegalArgumentException,IllegalStateException",
        "int reopen() ",
        "void freeze(int,int) NoSuchElementException,IllegalArgumentException,IllegalStateException",
        "boolean thaw(int) NoSuchElementException",
        "int solve() ",
        "int whatIf(int,int) NoSuchElementException,IllegalArgumentException",
        "int second(int) NoSuchElementException,IllegalStateException",
        "int at(int) IndexOutOfBoundsException",
        "int place(int) NoSuchElementException",
        "int verify() ",
        "int firstCome() ",
        "int bound() ",
        "int slack(int) NoSuchElementException,IllegalStateException",
        "int accept() ",
        "int change(int,int) IndexOutOfBoundsException,IllegalArgumentException",
    };

    private static final Check CHECK = new Check("FaceTest");

    public static void main(String[] args) {
        Class<?> desk = RunwayDesk.class;
        int modifiers = desk.getModifiers();
        CHECK.isTrue("the class is public and final",
                Modifier.isPublic(modifiers) && Modifier.isFinal(modifiers));
        CHECK.same("NONE", RunwayDesk.NONE, -1);
        methods(desk);
        constructors(desk);
        fields(desk);
        classesInside(desk);
        CHECK.end();
    }

    private static void methods(Class<?> desk) {
        Set<String> seen = new TreeSet<>();
        Set<String> publicNames = new TreeSet<>();
        for (Method method : desk.getDeclaredMethods()) {
            if (!Modifier.isPrivate(method.getModifiers())) {
                seen.add(told(method));
                publicNames.add(method.getName());
                CHECK.isTrue(method + " is public and not static",
                        Modifier.isPublic(method.getModifiers())
                                && !Modifier.isStatic(method.getModifiers()));
            }
        }
        Set<String> due = new TreeSet<>(Arrays.asList(FACE));
        CHECK.isTrue("the face is " + seen + ", due is " + due, seen.equals(due));
        for (Method method : desk.getDeclaredMethods()) {
            CHECK.isTrue("private " + method.getName() + " has a public one's name",
                    !Modifier.isPrivate(method.getModifiers())
                            || !publicNames.contains(method.getName()));
        }
    }

    private static String told(Method method) {
        return method.getReturnType() + " " + method.getName()
                + Arrays.stream(method.getParameterTypes()).map(Class::getSimpleName)
                        .collect(Collectors.joining(",", "(", ") "))
                + Arrays.stream(method.getExceptionTypes()).map(Class::getSimpleName)
                        .collect(Collectors.joining(","));
    }

    private static void constructors(Class<?> desk) {
        Constructor<?>[] constructors = desk.getDeclaredConstructors();
        CHECK.same("the number of constructors", constructors.length, 1);
        CHECK.isTrue("the constructor is public and takes nothing",
                Modifier.isPublic(constructors[0].getModifiers())
                        && constructors[0].getParameterCount() == 0);
    }

    private static void fields(Class<?> desk) {
        for (Field field : desk.getDeclaredFields()) {
            int modifiers = field.getModifiers();
            CHECK.isTrue(field + " is private",
                    field.getName().equals("NONE")
                            ? Modifier.isPublic(modifiers)
                            : Modifier.isPrivate(modifiers));
            CHECK.isTrue(field + " is final if it is static",
                    !Modifier.isStatic(modifiers) || Modifier.isFinal(modifiers));
        }
    }

    private static void classesInside(Class<?> desk) {
        for (Class<?> inside : desk.getDeclaredClasses()) {
            int modifiers = inside.getModifiers();
            CHECK.isTrue(inside + " is static and neither public nor protected",
                    Modifier.isStatic(modifiers) && !Modifier.isPublic(modifiers)
                            && !Modifier.isProtected(modifiers));
        }
    }
}
