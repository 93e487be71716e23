import java.lang.reflect.Constructor;
import java.lang.reflect.Executable;
import java.lang.reflect.Field;
import java.lang.reflect.Member;
import java.lang.reflect.Method;
import java.lang.reflect.Modifier;
import java.util.ArrayList;
import java.util.HashSet;
import java.util.List;
import java.util.Set;

/** 'The public face': the class has all that stands there, and nothing more that can be seen from outside. */
public final class FaceTest {
    private static final Check check = new Check("FaceTest");

    private static final List<String> CONSTANTS = List.of(
            "public static final int PLAIN = 0",
            "public static final int RISKY = 1",
            "public static final int FORBIDDEN = 2",
            "public static final int WAITING = 0",
            "public static final int APPROVED = 1",
            "public static final int DENIED = 2",
            "public static final int LAPSED = 3");

    private static final String CONSTRUCTOR = "AccessGate()";

    /** As the promises 2 to 24 name them, in their order. */
    private static final List<String> METHODS = List.of(
            "int addPerson(int team) throws IllegalArgumentException, IllegalStateException",
            "int addMachine(int label) throws IllegalArgumentException, IllegalStateException",
            "int setLabel(int person, int label, boolean has) throws IndexOutOfBoundsException, IllegalArgumentException",
            "int takeAway(int person, int machine) throws IndexOutOfBoundsException",
            "int ask(int person, int machine, int minutes) throws IndexOutOfBoundsException, IllegalArgumentException, "
                    + "IllegalStateException",
            "boolean approve(int ask, int by) throws IndexOutOfBoundsException, IllegalStateException",
            "void deny(int ask, int by) throws IndexOutOfBoundsException, IllegalStateException",
            "int askState(int ask) throws IndexOutOfBoundsException",
            "int enter(int person, int machine) throws IndexOutOfBoundsException, IllegalStateException",
            "int lookAt(int entry, int by) throws IndexOutOfBoundsException, IllegalStateException",
            "int overdue(int person) throws IndexOutOfBoundsException",
            "boolean couldEnter(int person, int machine, int time) throws IndexOutOfBoundsException, "
                    + "IllegalArgumentException",
            "int open(int person, int machine) throws IndexOutOfBoundsException, IllegalStateException",
            "boolean type(int session, int kind) throws IndexOutOfBoundsException, IllegalArgumentException, "
                    + "IllegalStateException",
            "int letThrough(int session, int by) throws IndexOutOfBoundsException, IllegalStateException",
            "int close(int session) throws IndexOutOfBoundsException, IllegalStateException",
            "boolean isOpen(int session) throws IndexOutOfBoundsException",
            "int openSessions()",
            "int pass(int minutes) throws IllegalArgumentException, IllegalStateException",
            "int clock()",
            "int steps()",
            "int kind(int step) throws IndexOutOfBoundsException",
            "int seal(int step) throws IndexOutOfBoundsException");

    public static void main(String[] args) throws IllegalAccessException {
        theClass();
        constants();
        constructors();
        methods();
        classesInside();
        if (Document.isThere()) {
            theFaceOfTheDocument();
            theSectionsOfTheDocument();
            theSignaturesOfThePromises();
        }
        check.end();
    }

    private static void theClass() {
        check.same("AccessGate", Modifier.toString(AccessGate.class.getModifiers()), "public final");
        check.same("its package", AccessGate.class.getPackageName(), "");
        check.same("the class above it", AccessGate.class.getSuperclass().getName(), "java.lang.Object");
        check.same("its interfaces", AccessGate.class.getInterfaces().length, 0);
    }

    private static void constants() throws IllegalAccessException {
        Set<String> seen = new HashSet<>();
        for (Field field : AccessGate.class.getDeclaredFields()) {
            if (isSeen(field)) {
                String value = Modifier.isStatic(field.getModifiers()) ? " = " + field.get(null) : " of an object";
                seen.add(Modifier.toString(field.getModifiers()) + " " + field.getType() + " " + field.getName() + value);
            }
        }
        compare("the constants", seen, CONSTANTS);
    }

    private static void constructors() {
        Set<String> seen = new HashSet<>();
        for (Constructor<?> constructor : AccessGate.class.getDeclaredConstructors()) {
            if (isSeen(constructor)) {
                seen.add(described(constructor, constructor.getName()));
            }
        }
        compare("the constructors", seen, List.of("public " + CONSTRUCTOR));
    }

    private static void methods() {
        Set<String> seen = new HashSet<>();
        Set<String> seenNames = new HashSet<>();
        List<String> hiddenNames = new ArrayList<>();
        for (Method method : AccessGate.class.getDeclaredMethods()) {
            if (isSeen(method)) {
                seen.add(described(method, method.getReturnType() + " " + method.getName()));
                seenNames.add(method.getName());
            } else {
                hiddenNames.add(method.getName());
            }
        }
        List<String> want = new ArrayList<>();
        for (String method : METHODS) {
            want.add("public " + withoutParameterNames(method));
        }
        compare("the methods", seen, want);
        for (String name : hiddenNames) {
            check.no("a private method with the public name " + name, seenNames.contains(name));
        }
    }

    private static void classesInside() {
        for (Class<?> inside : AccessGate.class.getDeclaredClasses()) {
            int modifiers = inside.getModifiers();
            check.yes(inside.getName() + " is static", Modifier.isStatic(modifiers));
            check.no(inside.getName() + " is public", Modifier.isPublic(modifiers));
            check.no(inside.getName() + " is protected", Modifier.isProtected(modifiers));
        }
    }

    private static void theFaceOfTheDocument() {
        List<String> want = new ArrayList<>();
        want.add("```java");
        want.add("public final class AccessGate {");
        want.add("    public static final int PLAIN = 0, RISKY = 1, FORBIDDEN = 2;");
        want.add("    public static final int WAITING = 0, APPROVED = 1, DENIED = 2, LAPSED = 3;");
        want.add("    public " + CONSTRUCTOR + ";");
        for (String method : METHODS) {
            want.add("    public " + method + ";");
        }
        want.add("}");
        want.add("```");
        check.same("the document's face", String.join("\n", Document.section("The public face")), String.join("\n", want));
    }

    private static void theSectionsOfTheDocument() {
        List<String> want = new ArrayList<>(List.of("What it is", "The public face", "Terms", "Promise 1: A new object"));
        for (int i = 0; i < METHODS.size(); i++) {
            String method = METHODS.get(i);
            want.add("Promise " + (i + 2) + ": " + method.substring(method.indexOf(' ') + 1, method.indexOf('(')));
        }
        want.add("Not promised");
        check.same("the document's sections", String.join("\n", Document.headings()), String.join("\n", want));
    }

    private static void theSignaturesOfThePromises() {
        compareSignature(1, CONSTRUCTOR);
        for (int i = 0; i < METHODS.size(); i++) {
            compareSignature(i + 2, METHODS.get(i));
        }
    }

    private static void compareSignature(int promise, String want) {
        String first = Document.section("Promise " + promise).get(0);
        check.yes("promise " + promise + " begins with " + want, first.startsWith("`" + want + "`: "));
    }

    /** Tells whether a member can be seen from outside: by all, or in the package alone. */
    private static boolean isSeen(Member member) {
        return !Modifier.isPrivate(member.getModifiers()) && !member.isSynthetic();
    }

    private static String described(Executable executable, String name) {
        String exceptions = namesOf(executable.getExceptionTypes());
        return Modifier.toString(executable.getModifiers()) + " " + name + "(" + namesOf(executable.getParameterTypes()) + ")"
                + (exceptions.isEmpty() ? "" : " throws " + exceptions);
    }

    private static String namesOf(Class<?>[] types) {
        List<String> names = new ArrayList<>();
        for (Class<?> type : types) {
            names.add(type.getSimpleName());
        }
        return String.join(", ", names);
    }

    private static String withoutParameterNames(String method) {
        return method.replaceAll("(int|boolean) [a-z]+(?=[,)])", "$1");
    }

    private static void compare(String what, Set<String> seen, List<String> want) {
        for (String member : want) {
            check.yes(what + " have " + member, seen.contains(member));
        }
        for (String member : seen) {
            check.yes(what + " of the document have " + member, want.contains(member));
        }
    }
}
