import java.util.List;
import java.util.stream.IntStream;

/** The bounds that Terms and promises 1 to 3 and 14 to 17 name, of layers and of entries, and each refusal of put. */
public final class LayerBoundsTest {
    private static final int LEAST = Integer.MIN_VALUE;
    private static final int MOST = Integer.MAX_VALUE;
    private static final int[] KINDS = {1, 2, 3, 4};
    /** About zero, and where a number kept in fewer bits would wrap into the right ones. */
    private static final List<Integer> WRONG_OR_RIGHT = IntStream.concat(IntStream.rangeClosed(-300, 300),
        IntStream.of(LEAST, LEAST + 1, LEAST + 2, LEAST + 3, MOST - 1, MOST, 65_536, 65_537, 65_538, 65_539, -65_535,
            1 << 30, (1 << 30) + 1, -(1 << 30) + 1, 1 << 24)).boxed().toList();

    public static void main(String[] args) {
        for (int lower : WRONG_OR_RIGHT) {
            numberOfLowerLayers(lower);
        }
        newObjects();
        layers();
        kindsOfPut();
        valuesOfPut();
        pathsOfPut();
        entryAlreadyThere();
        directoryAtParent();
        lowerBound();
        upperBound();
        mounting();
        valuesOfEntries();
        numbersOfEntries();
        whiteouts();
        Runs.end();
    }

    private static void numberOfLowerLayers(int lower) {
        int upper = lower < 1 ? 1 : lower > 3 ? 3 : lower;
        LayeredTree tree = new LayeredTree(lower);
        for (int layer = 0; layer <= upper; layer++) {
            Runs.due("Promise 1: entries of layer " + layer + " with " + lower, tree.entries(layer), 0);
        }
        Runs.due("Promise 1: no layer above with " + lower, tree.entries(upper + 1), LayeredTree.BAD);
        Runs.due("Promise 1: unmounted with " + lower, tree.objects(), LayeredTree.UNMOUNTED);
        tree.put(upper - 1, 1, 1, 1);
        tree.mount();
        tree.write(1, 2);
        Runs.due("Promise 1: the upper layer with " + lower, tree.entryValue(upper, 1), 2);
        Runs.due("Promise 1: the lower layer with " + lower, tree.entryValue(upper - 1, 1), 1);
    }

    private static void newObjects() {
        for (int lower = 1; lower <= 3; lower++) {
            LayeredTree tree = new LayeredTree(lower);
            for (int path : Picture.allPaths().subList(0, 120)) {
                for (int layer = 0; layer <= lower; layer++) {
                    Runs.due("Promise 1: entry of a new object", tree.entry(layer, path), 0);
                }
            }
            Runs.run("Promise 1: all layers are empty, and the tree is not mounted", "new " + lower, "whiteouts = 0",
                "copies = 0", "kind 0 = UNMOUNTED", "size 0 = UNMOUNTED", "objects = UNMOUNTED", "makeDir 1 = UNMOUNTED",
                "mount = 1", "kind 0 = 2", "size 0 = 0", "objects = 0");
        }
    }

    private static void layers() {
        for (int upper = 1; upper <= 3; upper++) {
            LayeredTree tree = new LayeredTree(upper);
            for (int layer : WRONG_OR_RIGHT) {
                boolean isLayer = layer >= 0 && layer <= upper;
                String what = " of layer " + layer + " where " + upper + " is the upper one";
                if (!isLayer) {
                    Runs.due("Promise 2: put" + what, tree.put(layer, 1, 1, 1) ? 1 : 0, 0);
                }
            }
            for (int layer = 0; layer <= upper; layer++) {
                Runs.due("Promise 2: nothing was put", tree.entries(layer), 0);
                Runs.due("Promise 2: put", tree.put(layer, 1, 1, 5 + layer) ? 1 : 0, 1);
            }
            layersOfLooks(upper);
        }
    }

    private static void layersOfLooks(int upper) {
        for (int layer : WRONG_OR_RIGHT) {
            LayeredTree tree = new LayeredTree(upper);
            for (int each = 0; each <= upper; each++) {
                tree.put(each, 1, 1, 5 + each);
            }
            boolean isLayer = layer >= 0 && layer <= upper;
            String what = " of layer " + layer + " where " + upper + " is the upper one";
            for (String when : new String[] {", unmounted", ", mounted"}) {
                Runs.due("Promise 14: entry" + what + when, tree.entry(layer, 1), isLayer ? 1 : LayeredTree.BAD);
                Runs.due("Promise 14: no entry" + what + when, tree.entry(layer, 2), isLayer ? 0 : LayeredTree.BAD);
                Runs.due("Promise 15: entryValue" + what + when, tree.entryValue(layer, 1),
                    isLayer ? 5 + layer : LayeredTree.BAD);
                Runs.due("Promise 15: no entryValue" + what + when, tree.entryValue(layer, 2),
                    isLayer ? LayeredTree.NONE : LayeredTree.BAD);
                Runs.due("Promise 16: entries" + what + when, tree.entries(layer), isLayer ? 1 : LayeredTree.BAD);
                tree.mount();
            }
        }
    }

    private static void kindsOfPut() {
        for (int layer = 0; layer <= 1; layer++) {
            for (int kind : WRONG_OR_RIGHT) {
                LayeredTree tree = new LayeredTree(1);
                boolean right = kind >= 1 && kind <= 4;
                Runs.due("Promise 2: put of kind " + kind, tree.put(layer, 1, kind, 1) ? 1 : 0, right ? 1 : 0);
                Runs.due("Promise 2: entry of kind " + kind, tree.entry(layer, 1), right ? kind : 0);
                Runs.due("Promise 2: entries with kind " + kind, tree.entries(layer), right ? 1 : 0);
            }
        }
        Runs.run("Promise 2: kind is not 1 .. 4", "new 1", "put 0 1 0 1 = 0", "put 0 1 5 1 = 0", "put 0 1 -1 1 = 0",
            "put 1 1 0 1 = 0", "put 1 1 5 1 = 0", "put 0 1 1 1 = 1", "put 1 1 4 1 = 1");
    }

    private static void valuesOfPut() {
        for (int layer = 0; layer <= 1; layer++) {
            for (int value : WRONG_OR_RIGHT) {
                LayeredTree tree = new LayeredTree(1);
                Runs.due("Promise 2: put of value " + value, tree.put(layer, 1, 1, value) ? 1 : 0, value < 0 ? 0 : 1);
                Runs.due("Promise 2: value " + value, tree.entryValue(layer, 1), value < 0 ? LayeredTree.NONE : value);
                for (int kind = 2; kind <= 4; kind++) {
                    Runs.due("Promise 2: the value " + value + " of kind " + kind + " is not looked at",
                        tree.put(layer, kind, kind, value) ? 1 : 0, 1);
                    Runs.due("Promise 15: kind " + kind + " put with " + value, tree.entryValue(layer, kind),
                        LayeredTree.NONE);
                }
            }
        }
        Runs.run("Promise 2: a file's value is less than 0", "new 1", "put 0 1 1 -1 = 0", "put 0 1 1 " + LEAST + " = 0",
            "put 1 1 1 -1 = 0", "put 0 1 1 0 = 1", "put 1 1 1 1 = 1", "entryValue 0 1 = 0", "entryValue 1 1 = 1");
    }

    private static void pathsOfPut() {
        for (int kind : KINDS) {
            String rest = " " + kind + " 1 = ";
            Runs.run("Promise 2: path is 0 or no path", "new 1", "put 0 0" + rest + "0", "put 1 0" + rest + "0",
                "put 0 -1" + rest + "0", "put 0 1" + rest + "1", "put 0 5" + rest + "1", "put 0 6" + rest + "0",
                "put 1 6" + rest + "0", "entries 0 = 2", "entries 1 = 0");
        }
    }

    private static void entryAlreadyThere() {
        for (int there : KINDS) {
            for (int kind : KINDS) {
                Runs.run("Promise 2: the layer has an entry at the path already", "new 2", "put 0 1 2 0 = 1",
                    "put 0 12 " + there + " 7 = 1", "put 0 12 " + kind + " 8 = 0", "put 0 12 " + there + " 7 = 0",
                    "entry 0 12 = " + there, "entryValue 0 12 = " + (there == 1 ? "7" : "NONE"), "entries 0 = 2",
                    "put 1 1 2 0 = 1", "put 1 12 " + kind + " 8 = 1", "put 2 1 2 0 = 1", "put 2 12 " + kind + " 9 = 1",
                    "put 0 11 " + kind + " 8 = 1", "put 0 13 " + kind + " 8 = 1");
            }
        }
    }

    private static void directoryAtParent() {
        for (int kind : KINDS) {
            String rest = " " + kind + " 1 = ";
            Runs.run("Promise 2: no entry at the parent", "new 2", "put 0 12" + rest + "0", "put 1 1 2 0 = 1",
                "put 2 1 2 0 = 1", "put 0 12" + rest + "0", "put 0 1 2 0 = 1", "put 0 12" + rest + "1");
            Runs.run("Promise 2: a file at the parent", "new 2", "put 0 1 1 3 = 1", "put 1 1 2 0 = 1",
                "put 0 12" + rest + "0", "put 1 12" + rest + "1");
            Runs.run("Promise 2: a whiteout at the parent", "new 2", "put 2 1 4 3 = 1", "put 1 1 2 0 = 1",
                "put 2 12" + rest + "0", "put 1 12" + rest + "1");
            Runs.run("Promise 2: an opaque directory at the parent", "new 2", "put 1 1 3 3 = 1", "put 1 12" + rest + "1");
            Runs.run("Promise 2: the parent that is 0 needs no entry", "new 2", "put 0 5" + rest + "1",
                "put 1 5" + rest + "1", "put 2 1" + rest + "1");
            Runs.run("Promise 2: the parent, not what is above it", "new 2", "put 0 1 2 0 = 1", "put 0 123" + rest + "0",
                "put 0 1234" + rest + "0", "put 0 12 2 0 = 1", "put 0 1234" + rest + "0", "put 0 123 3 0 = 1",
                "put 0 1234" + rest + "1", "put 0 12345" + rest + "0", "entries 0 = 4");
        }
    }

    private static void lowerBound() {
        for (int lower = 1; lower <= 3; lower++) {
            for (int last = 0; last < lower; last++) {
                for (int kind : KINDS) {
                    lowerBound(lower, last, kind);
                }
            }
        }
        for (int kind : KINDS) {
            String[] full = Runs.rows("new 3", Runs.filling(0, 20, 1, 2), Runs.filling(1, 20, 1, 2),
                Runs.filling(2, 20, 2, 3));
            Runs.run("Terms: the lower layers have at most 60 entries together", Runs.rows(full,
                "put 0 5 " + kind + " 1 = 0", "put 1 5 " + kind + " 1 = 0", "put 2 5 " + kind + " 1 = 0",
                "put 3 5 " + kind + " 1 = 1", "entries 0 = 20", "entries 1 = 20", "entries 2 = 20", "entries 3 = 1"));
        }
    }

    /** 58 entries spread over the lower layers, then one kind of entry up to the bound and above it. */
    private static void lowerBound(int lower, int last, int kind) {
        String[] rows = {"new " + lower};
        for (int layer = 0, left = 58; layer < lower; layer++) {
            int count = layer == lower - 1 ? left : 10 + layer;
            rows = Runs.rows(rows, Runs.filling(layer, count, 1, 2));
            left -= count;
        }
        String put = "put " + last + " ";
        Runs.run("Terms: the 59th, 60th and 61st lower entry, in layer " + last + " of " + lower, Runs.rows(rows,
            put + "3 " + kind + " 1 = 1", put + "4 " + kind + " 1 = 1", put + "5 " + kind + " 1 = 0",
            "entry " + last + " 4 = " + kind, "entry " + last + " 5 = 0", "put " + lower + " 5 1 1 = 1",
            put + "5 " + kind + " 1 = 0", "entries " + lower + " = 1"));
    }

    private static void upperBound() {
        for (int upper = 1; upper <= 3; upper++) {
            for (int kind : KINDS) {
                String put = "put " + upper + " ";
                Runs.run("Terms: the 29th, 30th and 31st upper entry, of kind " + kind, Runs.rows("new " + upper,
                    Runs.filling(upper, 28, 1), put + "3 " + kind + " 1 = 1", put + "4 " + kind + " 1 = 1",
                    put + "5 " + kind + " 1 = 0", "entries " + upper + " = 30", "entry " + upper + " 5 = 0",
                    "put 0 5 " + kind + " 1 = 1", put + "5 " + kind + " 1 = 0", "entries 0 = 1"));
            }
        }
        Runs.run("Terms: both bounds at once", Runs.rows("new 1", Runs.filling(0, 60, 1, 2), Runs.filling(1, 30, 3),
            "put 0 5 1 1 = 0", "put 1 5 1 1 = 0", "entries 0 = 60", "entries 1 = 30", "mount = 1", "objects = 90"));
        Runs.run("Promise 2: what is refused takes no room", Runs.rows("new 1", Runs.filling(1, 29, 1),
            "put 1 11 2 0 = 0", "put 1 6 1 1 = 0", "put 1 5 1 -1 = 0", "put 1 51 1 1 = 0", "put 1 5 5 1 = 0",
            "put 1 5 4 0 = 1", "put 1 4 4 0 = 0"));
    }

    private static void mounting() {
        Runs.run("Promise 3: perhaps without entries", "new 1", "mount = 1", "kind 0 = 2", "objects = 0");
        Runs.run("Promise 3: false when it is already", "new 3", "put 0 1 1 1 = 1", "put 3 2 4 1 = 1", "mount = 1",
            "mount = 0", "mount = 0", "objects = 1", "whiteouts = 1");
        Runs.run("Promise 3: with full layers", Runs.rows("new 2", Runs.filling(0, 60, 1, 2), Runs.filling(2, 30, 1),
            "mount = 1", "mount = 0", "objects = 60"));
        for (int kind : KINDS) {
            Runs.run("Promise 2: when the tree is mounted", "new 2", "put 0 1 2 0 = 1", "put 0 11 " + kind + " 1 = 1",
                "mount = 1", "put 0 12 " + kind + " 1 = 0", "put 1 2 " + kind + " 1 = 0", "put 2 2 " + kind + " 1 = 0",
                "entries 0 = 2", "entries 1 = 0", "entries 2 = 0");
        }
    }

    private static void valuesOfEntries() {
        int[] values = {0, 1, 3, 4, 127, 128, 255, 256, 32_767, 32_768, 65_535, 65_536, MOST - 1, MOST};
        for (int value : values) {
            Runs.run("Terms: a file with a value (0 or more)", "new 2", "put 0 1 1 " + value + " = 1",
                "put 2 2 1 " + value + " = 1", "entry 0 1 = 1", "entryValue 0 1 = " + value,
                "entryValue 2 2 = " + value, "mount = 1", "read 1 = " + value, "read 2 = " + value,
                "write 3 " + value + " = 0", "read 3 = " + value, "entryValue 2 3 = " + value, "rename 1 4 = 0",
                "read 4 = " + value, "entryValue 2 4 = " + value, "entryValue 0 1 = " + value, "entry 2 1 = 4",
                "entryValue 2 1 = NONE", "entryValue 1 1 = NONE");
        }
        Runs.run("Promise 15: BAD as for entry, before NONE", "new 1", "put 0 1 1 3 = 1", "entryValue 2 2 = BAD",
            "entryValue -1 2 = BAD", "entryValue 0 0 = BAD", "entryValue 0 6 = BAD", "entryValue 2 1 = BAD",
            "entryValue 0 2 = NONE", "entryValue 0 11 = NONE", "entryValue 1 1 = NONE", "entryValue 0 1 = 3");
    }

    private static void numbersOfEntries() {
        Runs.run("Promise 16: from none to all that may be", Runs.rows("new 1", "entries 0 = 0", "entries 1 = 0",
            "put 0 1 2 0 = 1", "entries 0 = 1", "entries 1 = 0", Runs.filling(0, 58, 2, 3), "entries 0 = 59",
            "put 0 5 4 0 = 1", "entries 0 = 60", Runs.filling(1, 30, 1), "entries 0 = 60", "entries 1 = 30",
            "mount = 1", "entries 0 = 60", "entries 1 = 30", "remove 155 = NONE", "remove 154 = 0", "entries 1 = 29",
            "entries 0 = 60", "entries 2 = BAD", "entries -1 = BAD"));
    }

    private static void whiteouts() {
        Runs.run("Promise 17: none", Runs.rows("new 1", Runs.filling(1, 30, 1), "put 0 1 4 0 = 1", "put 0 2 4 0 = 1",
            "whiteouts = 0", "mount = 1", "whiteouts = 0"));
        String[] directories = Runs.filling(1, 5, 1, 2, 3, 4, 5);
        String[] most = Runs.rows("new 1", directories);
        for (int parent = 1; parent <= 5; parent++) {
            for (int name = 1; name <= 5; name++) {
                most = Runs.rows(most, "put 1 " + parent + name + " 4 0 = 1", "whiteouts = " + (parent * 5 - 5 + name));
            }
        }
        Runs.run("Promise 17: as many as may be, put before mounting", Runs.rows(most, "entries 1 = 30",
            "put 1 11 4 0 = 0", "whiteouts = 25", "mount = 1", "whiteouts = 25", "remove 11 = NONE", "write 11 1 = 0",
            "whiteouts = 24", "makeDir 12 = 0", "whiteouts = 23", "remove 11 = 0", "whiteouts = 23", "remove 12 = 0",
            "remove 1 = 0", "whiteouts = 20", "entries 1 = 24"));
    }
}
