import java.util.ArrayList;
import java.util.Arrays;
import java.util.List;

/**
 * All that can be seen of an object after some calls. An object is good for 512 calls only, so the calls are made again
 * on as many new objects as it takes to ask everything.
 */
final class Picture {
    static final int MOST_CALLS = 512;
    private static final int MOUNTED_BEFORE = 0;
    private static final List<Call> LOOKS = looks();

    private final int[] answers = new int[LOOKS.size() + 1];

    Picture(int lower, List<Call> calls) {
        int next = 0;
        while (next < LOOKS.size()) {
            LayeredTree tree = new LayeredTree(lower);
            for (Call call : calls) {
                call.on(tree);
            }
            // What was put is seen in the tree only when it is mounted, so all looks are at a mounted one.
            answers[MOUNTED_BEFORE] = tree.mount() ? 0 : 1;
            int end = Math.min(LOOKS.size(), next + Math.max(1, MOST_CALLS - 1 - calls.size()));
            for (; next < end; next++) {
                answers[next + 1] = LOOKS.get(next).on(tree);
            }
        }
    }

    /** The paths of all objects that there can be. */
    static List<Integer> allPaths() {
        List<Integer> paths = new ArrayList<>();
        for (int number = 1; number < 10_000; number++) {
            if (isObjectPath(number)) {
                paths.add(number);
            }
        }
        return paths;
    }

    static boolean isObjectPath(int number) {
        return Integer.toString(number).matches("[1-5]{1,4}");
    }

    /** What differs first, as a text; empty when nothing does. */
    String differenceFrom(Picture other) {
        int at = Arrays.mismatch(answers, other.answers);
        if (at < 0) {
            return "";
        }
        String what = at == MOUNTED_BEFORE ? "mounted" : LOOKS.get(at - 1).toString();
        return what + " was " + other.answers[at] + ", is " + answers[at];
    }

    private static List<Call> looks() {
        List<Call> looks = new ArrayList<>(List.of(new Call("objects"), new Call("whiteouts"), new Call("copies"),
            new Call("kind", 0), new Call("size", 0), new Call("name", 0, 0), new Call("name", 0, 4)));
        for (int path : allPaths()) {
            looks.add(new Call("kind", path));
            looks.add(new Call("read", path));
            looks.add(new Call("size", path));
            looks.add(new Call("origin", path));
            looks.add(new Call("name", path, 0));
        }
        for (int layer = 0; layer <= 3; layer++) {
            looks.add(new Call("entries", layer));
            for (int path : allPaths()) {
                looks.add(new Call("entry", layer, path));
                looks.add(new Call("entryValue", layer, path));
            }
        }
        return looks;
    }
}
