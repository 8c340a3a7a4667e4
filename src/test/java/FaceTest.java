import java.lang.reflect.Field;
import java.lang.reflect.Member;
import java.lang.reflect.Method;
import java.lang.reflect.Modifier;
import java.util.Arrays;
import java.util.Set;
import java.util.TreeSet;
import java.util.stream.Collectors;
import java.util.stream.Stream;

/** The public face: just the document's constants, constructor and methods, and LANGUAGE.md's rules 1, 2 and 5 of it. */
public final class FaceTest {
    private static final Class<?> PROGRAM = LayeredTree.class;
    private static final String[] CONSTANTS = {"UNMOUNTED", "BAD", "NONE", "NO_PARENT", "EXISTS", "IS_DIRECTORY",
        "IS_FILE", "NOT_EMPTY", "INSIDE", "DEEP", "FULL"};
    private static final String[] METHODS = {"boolean put(int,int,int,int)", "boolean mount()", "int kind(int)",
        "int read(int)", "int size(int)", "int name(int,int)", "int objects()", "int origin(int)", "int makeDir(int)",
        "int write(int,int)", "int remove(int)", "int rename(int,int)", "int entry(int,int)",
        "int entryValue(int,int)", "int entries(int)", "int whiteouts()", "int copies()"};

    public static void main(String[] args) {
        members();
        values();
        modifiers();
        namesOfPrivateMethods();
        Runs.end();
    }

    private static void members() {
        Set<String> face = declared().filter(FaceTest::isVisible).map(Object::toString)
            .collect(Collectors.toCollection(TreeSet::new));
        Set<String> due = new TreeSet<>(Set.of("public LayeredTree(int)"));
        for (String constant : CONSTANTS) {
            due.add("public static final int LayeredTree." + constant);
        }
        for (String method : METHODS) {
            due.add("public " + method.replace(" ", " LayeredTree."));
        }
        for (String member : due) {
            holds("the face has " + member, face.contains(member));
        }
        for (String member : face) {
            holds("the document has " + member, due.contains(member));
        }
    }

    private static Stream<Member> declared() {
        return Stream.of(PROGRAM.getDeclaredFields(), PROGRAM.getDeclaredConstructors(), PROGRAM.getDeclaredMethods())
            .flatMap(Arrays::stream);
    }

    /** What the compiler adds by itself is not in the source, so it is no part of the face. */
    private static boolean isVisible(Member member) {
        return !Modifier.isPrivate(member.getModifiers()) && !member.isSynthetic();
    }

    private static void values() {
        int[] values = {LayeredTree.UNMOUNTED, LayeredTree.BAD, LayeredTree.NONE, LayeredTree.NO_PARENT,
            LayeredTree.EXISTS, LayeredTree.IS_DIRECTORY, LayeredTree.IS_FILE, LayeredTree.NOT_EMPTY,
            LayeredTree.INSIDE, LayeredTree.DEEP, LayeredTree.FULL};
        for (int i = 0; i < values.length; i++) {
            Runs.due(CONSTANTS[i], values[i], -1 - i);
        }
    }

    private static void modifiers() {
        holds("the class is public", Modifier.isPublic(PROGRAM.getModifiers()));
        holds("the class is final", Modifier.isFinal(PROGRAM.getModifiers()));
        holds("the class stands alone", PROGRAM.getSuperclass() == Object.class && PROGRAM.getInterfaces().length == 0);
        staticFieldsAreFinal(PROGRAM);
        for (Class<?> inside : PROGRAM.getDeclaredClasses()) {
            int modifiers = inside.getModifiers();
            holds(inside + " is static", Modifier.isStatic(modifiers));
            holds(inside + " is not seen", !Modifier.isPublic(modifiers) && !Modifier.isProtected(modifiers));
            staticFieldsAreFinal(inside);
        }
    }

    private static void staticFieldsAreFinal(Class<?> owner) {
        for (Field field : owner.getDeclaredFields()) {
            holds(field + " is no static state", !Modifier.isStatic(field.getModifiers())
                || Modifier.isFinal(field.getModifiers()));
        }
    }

    private static void namesOfPrivateMethods() {
        Set<String> visible = Arrays.stream(PROGRAM.getDeclaredMethods()).filter(FaceTest::isVisible)
            .map(Method::getName).collect(Collectors.toSet());
        for (Method method : PROGRAM.getDeclaredMethods()) {
            holds(method + " has a name of its own", isVisible(method) || !visible.contains(method.getName()));
        }
    }

    private static void holds(String what, boolean holds) {
        Runs.due(what, holds ? 1 : 0, 1);
    }
}
