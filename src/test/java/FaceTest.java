import java.lang.reflect.Constructor;
import java.lang.reflect.Field;
import java.lang.reflect.Member;
import java.lang.reflect.Method;
import java.lang.reflect.Modifier;
import java.util.Set;
import java.util.TreeSet;

/** The public face: just the document's constants, constructor and methods. */
public final class FaceTest {
    public static void main(String[] args) {
        Set<String> face = new TreeSet<>();
        for (Field field : LayeredTree.class.getDeclaredFields()) {
            if (isVisible(field)) {
                face.add(field.toString());
            }
        }
        for (Constructor<?> constructor : LayeredTree.class.getDeclaredConstructors()) {
            if (isVisible(constructor)) {
                face.add(constructor.toString());
            }
        }
        for (Method method : LayeredTree.class.getDeclaredMethods()) {
            if (isVisible(method)) {
                face.add(method.toString());
            }
        }
        Set<String> due = new TreeSet<>();
        String[] constants = {"UNMOUNTED", "BAD", "NONE", "NO_PARENT", "EXISTS", "IS_DIRECTORY", "IS_FILE", "NOT_EMPTY",
            "INSIDE", "DEEP", "FULL"};
        for (String constant : constants) {
            due.add("public static final int LayeredTree." + constant);
        }
        String[] methods = {"boolean put(int,int,int,int)", "boolean mount()", "int kind(int)", "int read(int)",
            "int size(int)", "int name(int,int)", "int objects()", "int origin(int)", "int makeDir(int)",
            "int write(int,int)", "int remove(int)", "int rename(int,int)", "int entry(int,int)",
            "int entryValue(int,int)", "int entries(int)", "int whiteouts()", "int copies()"};
        for (String method : methods) {
            due.add("public " + method.replace(" ", " LayeredTree."));
        }
        due.add("public LayeredTree(int)");
        for (String member : due) {
            Runs.due("the face has " + member, face.contains(member) ? 1 : 0, 1);
        }
        for (String member : face) {
            Runs.due("the document has " + member, due.contains(member) ? 1 : 0, 1);
        }
        int[] values = {LayeredTree.UNMOUNTED, LayeredTree.BAD, LayeredTree.NONE, LayeredTree.NO_PARENT,
            LayeredTree.EXISTS, LayeredTree.IS_DIRECTORY, LayeredTree.IS_FILE, LayeredTree.NOT_EMPTY,
            LayeredTree.INSIDE, LayeredTree.DEEP, LayeredTree.FULL};
        for (int i = 0; i < values.length; i++) {
            Runs.due(constants[i], values[i], -1 - i);
        }
        Runs.due("the class is public and final",
            LayeredTree.class.getModifiers() & (Modifier.PUBLIC | Modifier.FINAL), Modifier.PUBLIC | Modifier.FINAL);
        Runs.end();
    }

    /** What the compiler adds by itself is not in the source, so it is no part of the face. */
    private static boolean isVisible(Member member) {
        return !Modifier.isPrivate(member.getModifiers()) && !member.isSynthetic();
    }
}
