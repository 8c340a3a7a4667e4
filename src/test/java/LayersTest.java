/** Promises 1 to 3 and 14 to 17: a new object, put, mount, and what the layers hold. */
public final class LayersTest {
    private static final int LEAST = Integer.MIN_VALUE;
    private static final int MOST = Integer.MAX_VALUE;

    public static void main(String[] args) {
        newObjects();
        objectsBesideEachOther();
        putting();
        refusedPuts();
        parentsOfPuts();
        boundOfLowerLayers();
        boundOfUpperLayer();
        mounting();
        entries();
        whiteouts();
        Runs.end();
    }

    private static void newObjects() {
        int[][] lowerAndUpperLayer = {{LEAST, 1}, {-1, 1}, {0, 1}, {1, 1}, {2, 2}, {3, 3}, {4, 3}, {100, 3}, {MOST, 3}};
        for (int[] pair : lowerAndUpperLayer) {
            String[] rows = new String[pair[1] + 5];
            rows[0] = "new " + pair[0];
            for (int layer = 0; layer <= pair[1]; layer++) {
                rows[layer + 1] = "entries " + layer + " = 0";
            }
            rows[pair[1] + 2] = "entries " + (pair[1] + 1) + " = BAD";
            rows[pair[1] + 3] = "put " + (pair[1] + 1) + " 1 2 0 = 0";
            rows[pair[1] + 4] = "put " + pair[1] + " 1 2 0 = 1";
            Runs.run("a new object with " + pair[0] + " lower layers", rows);
        }
        Runs.run("a new object", "new 2", "objects = UNMOUNTED", "entry 0 1 = 0", "entry 2 5555 = 0", "whiteouts = 0",
            "copies = 0", "mount = 1", "objects = 0", "size 0 = 0");
    }

    /** What one object is told, no other one knows: each is made as a new one and goes on as if it were alone. */
    private static void objectsBesideEachOther() {
        LayeredTree[] trees = new LayeredTree[3];
        for (int i = 0; i < trees.length; i++) {
            trees[i] = new LayeredTree(i + 1);
            Runs.due("Promise 1: entries beside others", trees[i].entries(0), 0);
            Runs.due("Promise 1: unmounted beside others", trees[i].kind(0), LayeredTree.UNMOUNTED);
            trees[i].put(0, 1, 2, 0);
            trees[i].put(0, 11, 1, 5);
            trees[i].mount();
            trees[i].write(11, 6);
            trees[i].rename(1, 2);
        }
        trees[0].write(21, 7);
        trees[1].makeDir(3);
        trees[2].remove(21);
        int[][] due = {{7, 2, 3, 2}, {6, 3, 4, 2}, {LayeredTree.NONE, 1, 2, 2}};
        for (int i = 0; i < trees.length; i++) {
            int[] got = {trees[i].read(21), trees[i].objects(), trees[i].entries(i + 1), trees[i].copies()};
            for (int j = 0; j < got.length; j++) {
                Runs.due("object " + i + " beside others, look " + j, got[j], due[i][j]);
            }
        }
    }

    private static void putting() {
        Runs.run("all kinds in all layers", "new 2",
            "put 0 1 1 7 = 1", "put 0 2 2 8 = 1", "put 0 3 3 9 = 1", "put 0 4 4 10 = 1",
            "put 1 1 2 -1 = 1", "put 1 2 3 -1 = 1", "put 1 3 4 -1 = 1", "put 1 4 1 0 = 1",
            "put 2 5 1 " + MOST + " = 1", "put 2 4 4 -5 = 1",
            "entry 0 1 = 1", "entry 0 2 = 2", "entry 0 3 = 3", "entry 0 4 = 4", "entry 0 5 = 0",
            "entry 1 1 = 2", "entry 1 2 = 3", "entry 1 3 = 4", "entry 1 4 = 1", "entry 2 5 = 1", "entry 2 1 = 0",
            "entryValue 0 1 = 7", "entryValue 1 4 = 0", "entryValue 2 5 = " + MOST,
            "entryValue 0 2 = NONE", "entryValue 0 3 = NONE", "entryValue 0 4 = NONE", "entryValue 0 5 = NONE",
            "entries 0 = 4", "entries 1 = 4", "entries 2 = 2");
    }

    private static void refusedPuts() {
        Runs.run("refused puts change nothing", "new 2", "put 0 1 2 0 = 1",
            "put -1 2 1 1 = 0", "put 3 2 1 1 = 0", "put " + LEAST + " 2 1 1 = 0", "put " + MOST + " 2 1 1 = 0",
            "put 0 0 2 0 = 0", "put 0 -1 2 0 = 0", "put 0 6 2 0 = 0", "put 0 9 2 0 = 0", "put 0 10 2 0 = 0",
            "put 0 16 2 0 = 0", "put 0 101 2 0 = 0", "put 0 11111 2 0 = 0", "put 0 10000 2 0 = 0",
            "put 0 " + LEAST + " 2 0 = 0", "put 0 " + MOST + " 2 0 = 0",
            "put 0 2 0 1 = 0", "put 0 2 5 1 = 0", "put 0 2 -1 1 = 0", "put 0 2 " + LEAST + " 1 = 0",
            "put 0 2 1 -1 = 0", "put 0 2 1 " + LEAST + " = 0",
            "put 0 1 2 0 = 0", "put 0 1 1 4 = 0", "put 0 1 4 0 = 0",
            "entries 0 = 1", "entries 1 = 0", "entries 2 = 0", "entry 0 1 = 2", "entry 0 2 = 0", "whiteouts = 0");
        Runs.run("wrong puts do not take room or places", "new 1", "put 0 2 1 -1 = 0", "put 0 2 1 5 = 1",
            "entryValue 0 2 = 5", "put 0 2 1 6 = 0", "entryValue 0 2 = 5", "entries 0 = 1");
    }

    private static void parentsOfPuts() {
        Runs.run("the parent is a directory of the same layer", "new 2",
            "put 0 11 1 1 = 0", "put 0 1 2 0 = 1", "put 0 11 1 1 = 1", "put 1 12 1 1 = 0",
            "put 0 111 1 1 = 0", "put 0 2 3 0 = 1", "put 0 21 3 0 = 1", "put 0 212 2 0 = 1", "put 0 2123 2 0 = 1",
            "put 0 21231 1 1 = 0", "put 0 3 4 0 = 1", "put 0 31 1 1 = 0", "put 0 31 4 0 = 0", "put 2 11 4 0 = 0",
            "put 2 1 2 0 = 1", "put 2 11 4 0 = 1", "put 0 5555 1 1 = 0", "put 0 5 2 0 = 1", "put 0 55 2 0 = 1",
            "put 0 555 2 0 = 1", "put 0 5555 1 3 = 1", "entryValue 0 5555 = 3", "entries 0 = 11", "entries 1 = 0");
    }

    private static void boundOfLowerLayers() {
        String[] fiftyNineLowerEntries = Runs.rows("new 2", "put 0 1 2 0 = 1", "put 0 2 2 0 = 1", "put 0 3 2 0 = 1",
            "put 0 4 2 0 = 1", "put 0 5 2 0 = 1", Runs.fiveFiles(0, 1), Runs.fiveFiles(0, 2), Runs.fiveFiles(0, 3),
            Runs.fiveFiles(0, 4), "put 0 51 2 0 = 1", "put 0 52 4 0 = 1", "put 0 53 3 0 = 1", "put 1 1 2 0 = 1",
            "put 1 2 3 0 = 1", "put 1 3 2 0 = 1", "put 1 4 2 0 = 1", "put 1 5 2 0 = 1", Runs.fiveFiles(1, 1),
            Runs.fiveFiles(1, 2), Runs.fiveFiles(1, 3), Runs.fiveFiles(1, 4), Runs.fiveFiles(1, 5),
            "put 1 5 4 0 = 0", "put 0 531 1 1 = 1", "entries 0 = 29", "entries 1 = 30");
        Runs.run("the lower layers have at most 60 entries together", Runs.rows(fiftyNineLowerEntries,
            "put 0 54 2 0 = 1", "put 0 55 1 1 = 0", "put 0 541 4 0 = 0", "put 0 511 2 0 = 0", "entries 0 = 30",
            "entries 1 = 30", "put 2 1 2 0 = 1", "put 2 11 1 1 = 1", "entries 2 = 2", "mount = 1", "entries 0 = 30",
            "entries 1 = 30", "entry 0 54 = 2", "entry 0 511 = 0"));
        Runs.run("upper entries take no room of the lower ones", Runs.rows(fiftyNineLowerEntries, "put 2 1 2 0 = 1",
            "put 2 2 4 0 = 1", "put 0 54 1 1 = 1", "put 0 55 1 1 = 0", "entries 0 = 30", "entries 2 = 2"));
        Runs.run("a refused put takes no room", Runs.rows(fiftyNineLowerEntries, "put 1 51 1 1 = 0",
            "put 0 54 1 -1 = 0", "put 0 54 1 1 = 1", "put 0 55 1 1 = 0", "entries 0 = 30"));
        Runs.run("the 61st lower entry in a layer of its own", Runs.rows("new 3", "put 2 1 2 0 = 1", "put 2 2 2 0 = 1",
            "put 2 3 2 0 = 1", "put 2 4 2 0 = 1", "put 2 5 2 0 = 1", Runs.fiveFiles(2, 1), Runs.fiveFiles(2, 2),
            Runs.fiveFiles(2, 3), Runs.fiveFiles(2, 4), "put 2 51 2 0 = 1", "put 2 52 2 0 = 1", "put 2 53 2 0 = 1",
            "put 2 54 2 0 = 1", "put 2 55 2 0 = 1", Runs.fiveFiles(2, 51), Runs.fiveFiles(2, 52),
            Runs.fiveFiles(2, 53), Runs.fiveFiles(2, 54), Runs.fiveFiles(2, 55), "entries 2 = 55",
            "put 1 1 1 1 = 1", "put 1 2 1 1 = 1", "put 1 3 1 1 = 1", "put 0 4 1 1 = 1", "put 0 5 4 0 = 1",
            "put 0 1 1 1 = 0", "put 1 4 4 0 = 0", "put 1 5 2 0 = 0", "entries 0 = 2", "entries 1 = 3",
            "put 3 1 1 1 = 1", "entries 3 = 1"));
    }

    private static void boundOfUpperLayer() {
        Runs.run("the upper layer has at most 30 entries", Runs.rows("new 1", "put 1 1 2 0 = 1", "put 1 2 3 0 = 1",
            "put 1 3 2 0 = 1", "put 1 4 2 0 = 1", "put 1 5 2 0 = 1", Runs.fiveFiles(1, 1), Runs.fiveFiles(1, 2),
            Runs.fiveFiles(1, 3), Runs.fiveFiles(1, 4), "put 1 51 4 0 = 1", "put 1 52 1 1 = 1", "put 1 53 1 1 = 1",
            "put 1 54 1 1 = 1", "entries 1 = 29", "put 1 55 2 0 = 1", "entries 1 = 30", "put 1 551 1 1 = 0",
            "put 1 551 4 0 = 0", "entries 1 = 30", "put 0 1 1 1 = 1", "entries 0 = 1"));
    }

    private static void mounting() {
        Runs.run("mount once", "new 1", "mount = 1", "mount = 0", "mount = 0", "kind 0 = 2");
        Runs.run("no put after mounting", "new 1", "put 0 1 2 0 = 1", "mount = 1", "put 0 2 1 1 = 0",
            "put 1 2 1 1 = 0", "put 0 11 1 1 = 0", "mount = 0", "put 0 2 1 1 = 0", "entries 0 = 1", "entries 1 = 0",
            "objects = 1");
    }

    private static void entries() {
        Runs.run("wrong layers and paths", "new 1", "put 0 1 1 4 = 1",
            "entry -1 1 = BAD", "entry 2 1 = BAD", "entry " + LEAST + " 1 = BAD", "entry " + MOST + " 1 = BAD",
            "entry 0 0 = BAD", "entry 1 0 = BAD", "entry 0 -1 = BAD", "entry 0 6 = BAD", "entry 0 10 = BAD",
            "entry 0 1102 = BAD", "entry 0 11111 = BAD", "entry 0 " + MOST + " = BAD", "entry 0 " + LEAST + " = BAD",
            "entryValue -1 1 = BAD", "entryValue 2 1 = BAD", "entryValue 0 0 = BAD", "entryValue 0 -1 = BAD",
            "entryValue 0 7 = BAD", "entryValue 0 20 = BAD", "entryValue 0 12341 = BAD", "entryValue 5 0 = BAD",
            "entryValue 0 1 = 4", "entryValue 1 1 = NONE", "entryValue 0 11 = NONE",
            "entries -1 = BAD", "entries 2 = BAD", "entries " + LEAST + " = BAD", "entries " + MOST + " = BAD",
            "entries 0 = 1", "entries 1 = 0");
        Runs.run("before and after mounting", "new 1", "put 0 1 1 4 = 1", "put 1 1 4 0 = 1", "entry 0 1 = 1",
            "entryValue 0 1 = 4", "entry 1 1 = 4", "mount = 1", "entry 0 1 = 1", "entryValue 0 1 = 4", "entry 1 1 = 4",
            "entryValue 1 1 = NONE", "write 1 6 = 0", "entry 0 1 = 1", "entryValue 0 1 = 4", "entry 1 1 = 1",
            "entryValue 1 1 = 6", "entries 0 = 1", "entries 1 = 1", "entry 2 1 = BAD", "entry 0 0 = BAD");
        Runs.run("the lower layers are only read", "new 2", "put 0 1 2 0 = 1", "put 0 11 1 1 = 1", "put 1 1 2 0 = 1",
            "put 1 12 1 2 = 1", "mount = 1", "write 11 9 = 0", "remove 12 = 0", "rename 1 2 = 0", "write 1 3 = 0",
            "entries 0 = 2", "entries 1 = 2", "entryValue 0 11 = 1", "entryValue 1 12 = 2", "entry 0 1 = 2",
            "entry 1 1 = 2");
    }

    private static void whiteouts() {
        Runs.run("whiteouts of the upper layer alone", "new 1", "put 0 1 4 0 = 1", "put 0 2 1 1 = 1", "whiteouts = 0",
            "put 1 3 4 0 = 1", "whiteouts = 1", "put 1 4 4 0 = 1", "put 1 4 4 0 = 0", "whiteouts = 2", "mount = 1",
            "whiteouts = 2", "remove 2 = 0", "whiteouts = 3", "write 3 1 = 0", "whiteouts = 2", "makeDir 4 = 0",
            "whiteouts = 1", "makeDir 2 = 0", "whiteouts = 0", "remove 2 = 0", "whiteouts = 1", "remove 3 = 0",
            "whiteouts = 1");
        Runs.run("whiteouts go with their directory", "new 1", "put 0 1 2 0 = 1", "put 0 11 1 1 = 1",
            "put 0 12 2 0 = 1", "put 0 121 1 1 = 1", "mount = 1", "remove 11 = 0", "remove 121 = 0", "whiteouts = 2",
            "remove 12 = 0", "whiteouts = 2", "entries 1 = 3", "remove 1 = 0", "whiteouts = 1", "entries 1 = 1");
    }
}
