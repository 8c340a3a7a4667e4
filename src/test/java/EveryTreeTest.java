import java.util.ArrayList;
import java.util.Arrays;
import java.util.List;

/**
 * Terms, "THE TREE" and "CHANGING THE UPPER LAYER": every way in which three layers can have entries at 1 and at 12, and
 * every request about these paths, answered as by PlainTree.
 */
public final class EveryTreeTest {
    private static final int LAYERS = 3;
    /** What one layer can have at 1 and at 12: kinds of entries, 0 being none. */
    private static final int[][] ENTRIES = {{0, 0}, {1, 0}, {4, 0}, {2, 0}, {2, 1}, {2, 2}, {2, 3}, {2, 4}, {3, 0},
        {3, 1}, {3, 2}, {3, 3}, {3, 4}};
    private static final String[] REQUESTS = {"makeDir 1", "makeDir 12", "makeDir 121", "write 1 9", "write 12 9",
        "write 121 9", "remove 1", "remove 12", "rename 1 4", "rename 12 4", "rename 1 3", "rename 12 2", "rename 1 2",
        "rename 2 1", "rename 2 12", "rename 3 1", "rename 3 12", "rename 1 1"};
    private static final Call[] ELSEWHERE = calls("put 0 2 2 0", "put 0 23 1 3", "put 0 3 1 4");
    private static final Call[] LOOKS = calls("objects", "whiteouts", "copies", "entries 0", "entries 1", "entries 2",
        "kind 1", "read 1", "size 1", "name 1 0", "origin 1", "kind 12", "read 12", "size 12", "origin 12", "kind 121",
        "kind 2", "read 2", "size 2", "kind 3", "read 3", "kind 4", "read 4", "size 4", "kind 13", "read 13", "read 123",
        "entry 2 1", "entryValue 2 1", "entry 2 12", "entryValue 2 12", "entry 2 121", "entry 2 123", "entry 2 13",
        "entry 2 2", "entry 2 22", "entry 2 23", "entry 2 3", "entry 2 4", "entry 2 42", "entry 2 43", "entry 1 1",
        "entry 1 12", "entry 0 1", "entry 0 12");

    public static void main(String[] args) {
        int trees = ENTRIES.length * ENTRIES.length * ENTRIES.length;
        for (int tree = 0; tree < trees; tree++) {
            List<Call> puts = puts(tree);
            for (String request : REQUESTS) {
                List<Call> run = new ArrayList<>(puts);
                run.add(Call.of(request));
                run.addAll(Arrays.asList(LOOKS));
                same(run);
            }
        }
        Runs.end();
    }

    private static Call[] calls(String... words) {
        return Arrays.stream(words).map(Call::of).toArray(Call[]::new);
    }

    private static List<Call> puts(int tree) {
        List<Call> puts = new ArrayList<>(Arrays.asList(ELSEWHERE));
        int rest = tree;
        for (int layer = 0; layer < LAYERS; layer++) {
            int[] kinds = ENTRIES[rest % ENTRIES.length];
            rest /= ENTRIES.length;
            if (kinds[0] != 0) {
                puts.add(new Call("put", layer, 1, kinds[0], 5 + layer));
            }
            if (kinds[1] != 0) {
                puts.add(new Call("put", layer, 12, kinds[1], 15 + layer));
            }
        }
        puts.add(new Call("mount"));
        return puts;
    }

    private static void same(List<Call> run) {
        LayeredTree tree = new LayeredTree(LAYERS - 1);
        PlainTree plain = new PlainTree(LAYERS - 1);
        for (int i = 0; i < run.size(); i++) {
            Call call = run.get(i);
            int got = call.on(tree);
            int due = plain.call(call.name(), call.arguments());
            if (got != due) {
                Runs.due(run.subList(0, i + 1).toString(), got, due);
                return;
            }
        }
    }
}
