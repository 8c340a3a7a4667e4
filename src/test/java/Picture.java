import java.util.ArrayList;
import java.util.Arrays;
import java.util.HashMap;
import java.util.List;
import java.util.Map;

/**
 * All that can be seen of an object after some calls. An object is good for 512 calls only, so the calls are made again
 * on as many new objects as it takes to ask everything.
 */
final class Picture {
    static final int MOST_CALLS = 512;
    private static final int MOUNTED_BEFORE = 0;
    private static final List<Call> LOOKS = looks();
    /** Where the answer of a call stands, by its name and its arguments. */
    private static final Map<String, Map<Long, Integer>> INDEX = index();

    private final int[] answers = new int[LOOKS.size() + 1];

    Picture(int lower, List<Call> calls) {
        int next = 0;
        while (next < LOOKS.size()) {
            LayeredTree tree = new LayeredTree(lower);
            for (Call call : calls) {
                call.on(tree);
            }
            // What was put is seen in the tree only when it is mounted, so all looks are at a mounted one.
            answers[MOUNTED_BEFORE] = tree.mount() ? 0 : 1;
            int end = Math.min(LOOKS.size(), next + Math.max(1, MOST_CALLS - 1 - calls.size()));
            for (; next < end; next++) {
                answers[next + 1] = LOOKS.get(next).on(tree);
            }
        }
    }

    /** The paths of all objects that there can be. */
    static List<Integer> allPaths() {
        List<Integer> paths = new ArrayList<>();
        for (int number = 1; number < 10_000; number++) {
            if (isObjectPath(number)) {
                paths.add(number);
            }
        }
        return paths;
    }

    static boolean isObjectPath(int number) {
        return Integer.toString(number).matches("[1-5]{1,4}");
    }

    /** The answer of one of the calls that were looked with, as in answer("entry", 0, 12). */
    int answer(String name, int... arguments) {
        return answers[INDEX.get(name).get(key(arguments))];
    }

    /** What differs first, as a text; empty when nothing does. */
    String differenceFrom(Picture other) {
        int at = Arrays.mismatch(answers, other.answers);
        if (at < 0) {
            return "";
        }
        String what = at == MOUNTED_BEFORE ? "mounted" : LOOKS.get(at - 1).toString();
        return what + " was " + other.answers[at] + ", is " + answers[at];
    }

    private static Map<String, Map<Long, Integer>> index() {
        Map<String, Map<Long, Integer>> index = new HashMap<>();
        for (int i = 0; i < LOOKS.size(); i++) {
            Call look = LOOKS.get(i);
            index.computeIfAbsent(look.name(), name -> new HashMap<>()).put(key(look.arguments()), i + 1);
        }
        return index;
    }

    private static long key(int[] arguments) {
        long key = 0;
        for (int argument : arguments) {
            key = key * 10_000 + argument;
        }
        return key;
    }

    private static List<Call> looks() {
        List<Call> looks = new ArrayList<>(List.of(new Call("objects"), new Call("whiteouts"), new Call("copies"),
            new Call("kind", 0), new Call("size", 0), new Call("name", 0, 0), new Call("name", 0, 4)));
        for (int path : allPaths()) {
            looks.add(new Call("kind", path));
            looks.add(new Call("read", path));
            looks.add(new Call("size", path));
            looks.add(new Call("origin", path));
            looks.add(new Call("name", path, 0));
        }
        for (int layer = 0; layer <= 3; layer++) {
            looks.add(new Call("entries", layer));
            for (int path : allPaths()) {
                looks.add(new Call("entry", layer, path));
                looks.add(new Call("entryValue", layer, path));
            }
        }
        return looks;
    }
}
