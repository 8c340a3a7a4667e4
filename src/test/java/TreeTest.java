/** Promises 4 to 9: what is seen of the tree, in kind, read, size, name, objects and origin. */
public final class TreeTest {
    private static final int LEAST = Integer.MIN_VALUE;
    private static final int MOST = Integer.MAX_VALUE;

    public static void main(String[] args) {
        unmounted();
        noPaths();
        namesInPaths();
        root();
        plainTree();
        higherLayersDecide();
        nothingIsInAFile();
        opaqueDirectories();
        endsOfMerging();
        endsInEachLayer();
        whiteoutsBelowDirectories();
        names();
        deepest();
        Runs.end();
    }

    private static void unmounted() {
        Runs.run("before mounting", "new 1", "put 0 1 1 1 = 1", "kind 0 = UNMOUNTED", "kind 1 = UNMOUNTED",
            "kind 9 = UNMOUNTED", "read 1 = UNMOUNTED", "read 0 = UNMOUNTED", "read -1 = UNMOUNTED",
            "size 0 = UNMOUNTED", "size 1 = UNMOUNTED", "size 6 = UNMOUNTED", "name 0 0 = UNMOUNTED",
            "name 7 -1 = UNMOUNTED", "objects = UNMOUNTED", "origin 1 = UNMOUNTED", "origin 0 = UNMOUNTED",
            "origin 77 = UNMOUNTED", "mount = 1", "kind 1 = 1", "objects = 1");
    }

    private static void noPaths() {
        int[] wrong = {-1, -5, LEAST, 6, 9, 10, 20, 16, 61, 101, 110, 1000, 1110, 1101, 1011, 5556, 6111, 1611, 1161,
            9999, 10000, 11111, 12345, 55555, 111111, MOST};
        for (int path : wrong) {
            Runs.run("no path", "new 1", "put 0 1 2 0 = 1", "put 0 11 2 0 = 1", "put 0 111 2 0 = 1",
                "put 0 1111 2 0 = 1", "mount = 1", "kind " + path + " = BAD", "read " + path + " = BAD",
                "size " + path + " = BAD", "name " + path + " 0 = BAD", "origin " + path + " = BAD");
        }
        int[] right = {1, 5, 11, 15, 51, 55, 111, 345, 555, 1111, 1234, 5432, 5555};
        for (int path : right) {
            Runs.run("a path where nothing is", "new 1", "mount = 1", "kind " + path + " = 0",
                "read " + path + " = NONE", "size " + path + " = NONE", "name " + path + " 0 = NONE",
                "origin " + path + " = NONE");
        }
    }

    private static void namesInPaths() {
        Runs.run("Terms: 132 is the object named 2 in the object named 3 in the object named 1", "new 1",
            "put 0 1 2 0 = 1", "put 0 13 2 0 = 1", "put 0 132 1 7 = 1", "mount = 1", "size 0 = 1", "name 0 0 = 1",
            "size 1 = 1", "name 1 0 = 3", "size 13 = 1", "name 13 0 = 2", "read 132 = 7", "kind 2 = 0", "kind 23 = 0",
            "kind 231 = 0", "kind 3 = 0", "kind 12 = 0", "objects = 3");
    }

    private static void root() {
        Runs.run("the root", "new 1", "mount = 1", "kind 0 = 2", "read 0 = IS_DIRECTORY", "size 0 = 0",
            "name 0 0 = NONE", "name 0 -1 = NONE", "origin 0 = BAD", "objects = 0");
    }

    private static void plainTree() {
        Runs.run("files and directories", "new 1", "put 0 1 2 0 = 1", "put 0 12 1 0 = 1", "put 0 13 2 0 = 1",
            "put 0 3 1 " + MOST + " = 1", "put 1 5 1 5 = 1", "mount = 1",
            "kind 1 = 2", "kind 12 = 1", "kind 13 = 2", "kind 3 = 1", "kind 5 = 1", "kind 2 = 0", "kind 131 = 0",
            "kind 121 = 0", "kind 21 = 0", "read 12 = 0", "read 3 = " + MOST, "read 5 = 5", "read 1 = IS_DIRECTORY",
            "read 2 = NONE", "read 31 = NONE", "size 0 = 3", "size 1 = 2", "size 13 = 0", "size 12 = IS_FILE",
            "size 2 = NONE", "size 121 = NONE", "name 12 0 = IS_FILE", "name 2 0 = NONE", "name 13 0 = NONE",
            "objects = 5", "origin 1 = 0", "origin 12 = 0", "origin 5 = 1", "origin 2 = NONE", "origin 31 = NONE");
    }

    private static void higherLayersDecide() {
        Runs.run("the highest entry decides", "new 3",
            "put 0 1 1 10 = 1", "put 1 1 1 11 = 1", "put 2 1 1 12 = 1", "put 3 1 1 13 = 1",
            "put 0 2 1 20 = 1", "put 1 2 1 21 = 1", "put 2 2 4 0 = 1",
            "put 0 3 4 0 = 1", "put 2 3 1 32 = 1",
            "put 0 4 1 40 = 1", "put 1 4 2 0 = 1", "put 1 41 1 41 = 1",
            "put 0 5 2 0 = 1", "put 0 51 1 50 = 1", "put 3 5 1 53 = 1", "mount = 1",
            "read 1 = 13", "origin 1 = 3", "kind 2 = 0", "read 2 = NONE", "origin 2 = NONE", "read 3 = 32",
            "origin 3 = 2", "kind 4 = 2", "origin 4 = 1", "read 41 = 41", "size 4 = 1", "read 5 = 53", "kind 51 = 0",
            "origin 5 = 3", "objects = 5", "size 0 = 4");
    }

    private static void nothingIsInAFile() {
        for (int layer = 1; layer <= 3; layer++) {
            Runs.run("a file in layer " + layer + " over directories", "new 3", "put 0 1 2 0 = 1", "put 0 11 2 0 = 1",
                "put 0 111 1 1 = 1", "put " + layer + " 1 1 5 = 1", "mount = 1", "read 1 = 5", "origin 1 = " + layer,
                "kind 11 = 0", "kind 111 = 0", "read 111 = NONE", "size 11 = NONE", "origin 11 = NONE", "objects = 1",
                "write 11 1 = NO_PARENT", "makeDir 112 = NO_PARENT", "remove 111 = NONE", "rename 11 2 = NONE");
        }
    }

    private static void opaqueDirectories() {
        Runs.run("an opaque directory ends its parts, but is one", "new 3",
            "put 0 1 2 0 = 1", "put 0 11 1 1 = 1", "put 1 1 3 0 = 1", "put 1 12 1 2 = 1", "put 2 1 2 0 = 1",
            "put 2 13 1 3 = 1", "put 3 1 2 0 = 1", "put 3 14 1 4 = 1",
            "put 0 2 2 0 = 1", "put 0 21 1 1 = 1", "put 3 2 3 0 = 1", "put 3 22 1 2 = 1",
            "put 0 3 3 0 = 1", "put 0 31 1 1 = 1", "put 2 3 2 0 = 1", "mount = 1",
            "kind 11 = 0", "read 12 = 2", "read 13 = 3", "read 14 = 4", "size 1 = 3", "origin 1 = 3", "origin 12 = 1",
            "origin 13 = 2", "kind 21 = 0", "read 22 = 2", "origin 2 = 3", "read 31 = 1", "origin 3 = 2",
            "origin 31 = 0", "objects = 8");
        Runs.run("what an opaque directory hides stays hidden further in", "new 2",
            "put 0 1 2 0 = 1", "put 0 11 2 0 = 1", "put 0 111 1 1 = 1", "put 0 12 1 1 = 1", "put 1 1 3 0 = 1",
            "put 1 11 2 0 = 1", "put 1 113 1 3 = 1", "put 2 1 2 0 = 1", "put 2 11 2 0 = 1", "mount = 1",
            "kind 111 = 0", "read 113 = 3", "kind 12 = 0", "size 11 = 1", "objects = 3", "origin 11 = 2");
    }

    private static void endsOfMerging() {
        Runs.run("a file or whiteout ends the parts", "new 3",
            "put 0 1 2 0 = 1", "put 0 11 1 1 = 1", "put 1 1 1 9 = 1", "put 2 1 2 0 = 1", "put 2 12 1 2 = 1",
            "put 0 2 2 0 = 1", "put 0 21 1 1 = 1", "put 1 2 4 0 = 1", "put 2 2 2 0 = 1", "put 2 22 1 2 = 1",
            "put 0 3 2 0 = 1", "put 0 31 1 1 = 1", "put 3 3 2 0 = 1", "put 3 32 1 2 = 1",
            "put 0 4 2 0 = 1", "put 0 41 1 1 = 1", "put 1 4 2 0 = 1", "put 2 4 4 0 = 1", "put 3 4 2 0 = 1",
            "mount = 1", "kind 1 = 2", "kind 11 = 0", "read 12 = 2", "size 1 = 1", "kind 2 = 2", "kind 21 = 0",
            "read 22 = 2", "size 2 = 1", "read 31 = 1", "read 32 = 2", "size 3 = 2", "origin 3 = 3", "kind 4 = 2",
            "size 4 = 0", "origin 4 = 3", "objects = 8");
    }

    /** At 1 directories in all layers but one, which has each kind of entry; the files in them are named after the layers. */
    private static void endsInEachLayer() {
        for (int upper = 1; upper <= 3; upper++) {
            for (int other = 0; other <= upper; other++) {
                for (int kind : new int[] {0, 1, 2, 3, 4}) {
                    endsInLayer(upper, other, kind);
                }
            }
        }
    }

    private static void endsInLayer(int upper, int other, int kind) {
        String[] rows = {"new " + upper};
        for (int layer = 0; layer <= upper; layer++) {
            int kindHere = layer == other ? kind : 2;
            if (kindHere != 0) {
                rows = Runs.rows(rows, "put " + layer + " 1 " + kindHere + " 9 = 1");
            }
            if (kindHere == 2 || kindHere == 3) {
                rows = Runs.rows(rows, "put " + layer + " " + (11 + layer) + " 1 " + layer + " = 1");
            }
        }
        rows = Runs.rows(rows, "mount = 1");
        boolean isDirectory = other < upper || kind != 1 && kind != 4;
        for (int layer = 0; layer <= upper; layer++) {
            boolean isPart = isDirectory && (layer > other || layer == other && (kind == 2 || kind == 3)
                || layer < other && (kind == 0 || kind == 2));
            rows = Runs.rows(rows, "read " + (11 + layer) + " = " + (isPart ? layer : "NONE"));
        }
        int origin = other == upper && kind == 0 ? upper - 1 : upper;
        boolean isNothing = other == upper && kind == 4;
        Runs.run("Terms: an entry of kind " + kind + " in layer " + other, Runs.rows(rows,
            "kind 1 = " + (isDirectory ? 2 : kind == 1 ? 1 : 0), "origin 1 = " + (isNothing ? "NONE" : origin)));
    }

    private static void whiteoutsBelowDirectories() {
        Runs.run("only parts of the parent are looked at", "new 2",
            "put 0 1 2 0 = 1", "put 0 11 2 0 = 1", "put 0 111 1 1 = 1", "put 1 1 2 0 = 1", "put 1 11 4 0 = 1",
            "put 2 1 2 0 = 1", "put 2 11 2 0 = 1", "put 2 112 1 2 = 1",
            "put 0 2 2 0 = 1", "put 0 21 1 1 = 1", "put 1 2 4 0 = 1", "mount = 1",
            "kind 11 = 2", "kind 111 = 0", "read 112 = 2", "size 11 = 1", "kind 2 = 0", "kind 21 = 0", "read 21 = NONE",
            "objects = 3");
        Runs.run("a layer that is no part cannot hide or show", "new 2",
            "put 0 1 2 0 = 1", "put 0 11 1 1 = 1", "put 0 12 1 2 = 1", "put 1 1 2 0 = 1", "put 1 11 4 0 = 1",
            "put 2 1 3 0 = 1", "put 2 12 4 0 = 1", "mount = 1", "size 1 = 0", "kind 11 = 0", "kind 12 = 0",
            "objects = 1");
    }

    private static void names() {
        Runs.run("names ascend over all layers", "new 2", "put 0 1 2 0 = 1", "put 0 15 1 1 = 1", "put 0 13 1 1 = 1",
            "put 1 1 2 0 = 1", "put 1 14 1 1 = 1", "put 1 13 4 0 = 1", "put 2 1 2 0 = 1", "put 2 11 1 1 = 1",
            "put 2 15 1 3 = 1", "mount = 1", "size 1 = 3", "name 1 0 = 1", "name 1 1 = 4", "name 1 2 = 5",
            "name 1 3 = NONE", "name 1 4 = NONE", "name 1 5 = NONE", "name 1 -1 = NONE", "name 1 " + LEAST + " = NONE",
            "name 1 " + MOST + " = NONE", "name 0 0 = 1", "name 0 1 = NONE", "name 11 0 = IS_FILE",
            "name 11 -1 = IS_FILE", "name 12 0 = NONE", "name 6 0 = BAD");
        Runs.run("five names", "new 1", "mount = 1", "write 3 1 = 0", "write 1 1 = 0", "write 5 1 = 0", "write 2 1 = 0",
            "write 4 1 = 0", "size 0 = 5", "name 0 0 = 1", "name 0 1 = 2", "name 0 2 = 3", "name 0 3 = 4",
            "name 0 4 = 5", "name 0 5 = NONE", "remove 3 = 0", "name 0 2 = 4", "name 0 4 = NONE");
    }

    private static void deepest() {
        Runs.run("four names", "new 1", "put 0 5 2 0 = 1", "put 0 55 2 0 = 1", "put 0 555 2 0 = 1",
            "put 0 5555 2 0 = 1", "put 0 5551 1 8 = 1", "put 0 1 2 0 = 1", "put 0 11 2 0 = 1", "put 0 111 2 0 = 1",
            "put 0 1111 2 0 = 1", "mount = 1", "kind 5555 = 2", "size 5555 = 0", "name 5555 0 = NONE",
            "read 5551 = 8", "size 5551 = IS_FILE", "size 555 = 2", "name 555 0 = 1", "name 555 1 = 5",
            "size 1111 = 0", "objects = 9");
    }
}
