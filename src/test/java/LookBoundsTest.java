import java.util.ArrayList;
import java.util.List;

/** The bounds and refusals that promises 4 to 9 name: of what is seen of the tree. */
public final class LookBoundsTest {
    private static final int LEAST = Integer.MIN_VALUE;
    private static final int MOST = Integer.MAX_VALUE;
    /** A directory with a file and a directory, an empty directory, a file; nothing at 4 and, by a whiteout, at 5. */
    private static final String[] TREE = {"new 1", "put 0 1 2 0 = 1", "put 0 11 1 6 = 1", "put 0 12 2 0 = 1",
        "put 0 2 2 0 = 1", "put 0 3 1 7 = 1", "put 0 5 2 0 = 1", "put 0 51 1 8 = 1", "put 1 5 4 0 = 1"};

    public static void main(String[] args) {
        unmounted();
        kinds();
        reads();
        sizes();
        names();
        eachNumberOfNames();
        numbersOfNames();
        objects();
        origins();
        looksChangeNothing();
        Runs.end();
    }

    private static void unmounted() {
        for (String path : new String[] {"0", "1", "11", "3", "4", "5", "31", "51", "6", "-1", "11111"}) {
            Runs.run("UNMOUNTED before all else", Runs.rows(TREE, "kind " + path + " = UNMOUNTED",
                "read " + path + " = UNMOUNTED", "size " + path + " = UNMOUNTED", "name " + path + " 0 = UNMOUNTED",
                "name " + path + " -1 = UNMOUNTED", "name " + path + " 9 = UNMOUNTED", "origin " + path + " = UNMOUNTED",
                "objects = UNMOUNTED"));
        }
    }

    private static void kinds() {
        Runs.run("Promise 4: 2 at the root, also of an empty tree", "new 1", "kind 0 = UNMOUNTED", "mount = 1",
            "kind 0 = 2");
        Runs.run("Promise 4: nothing, a file, a directory", Runs.rows(TREE, "mount = 1", "kind 0 = 2", "kind 1 = 2",
            "kind 11 = 1", "kind 12 = 2", "kind 2 = 2", "kind 3 = 1", "kind 4 = 0", "kind 5 = 0", "kind 51 = 0",
            "kind 31 = 0", "kind 3111 = 0", "kind 41 = 0", "kind 4111 = 0"));
        Runs.run("Promise 4: BAD when it is no path", Runs.rows(TREE, "mount = 1", "kind -1 = BAD", "kind 6 = BAD",
            "kind 10 = BAD", "kind 16 = BAD", "kind 36 = BAD", "kind 11111 = BAD"));
    }

    private static void reads() {
        Runs.run("Promise 5: BAD, NONE, IS_DIRECTORY", Runs.rows(TREE, "mount = 1", "read -1 = BAD", "read 6 = BAD",
            "read 16 = BAD", "read 36 = BAD", "read 4 = NONE", "read 5 = NONE", "read 51 = NONE", "read 31 = NONE",
            "read 13 = NONE", "read 0 = IS_DIRECTORY", "read 1 = IS_DIRECTORY", "read 2 = IS_DIRECTORY",
            "read 12 = IS_DIRECTORY", "read 3 = 7", "read 11 = 6"));
        Runs.run("Promise 5: the least and the largest value", "new 1", "put 0 1 1 0 = 1",
            "put 0 2 1 " + MOST + " = 1", "mount = 1", "read 1 = 0", "read 2 = " + MOST, "write 1 " + MOST + " = 0",
            "write 2 0 = 0", "read 1 = " + MOST, "read 2 = 0");
    }

    private static void sizes() {
        Runs.run("Promise 6: BAD, NONE, IS_FILE", Runs.rows(TREE, "mount = 1", "size -1 = BAD", "size 6 = BAD",
            "size 16 = BAD", "size 36 = BAD", "size 4 = NONE", "size 5 = NONE", "size 51 = NONE", "size 31 = NONE",
            "size 3 = IS_FILE", "size 11 = IS_FILE", "size 0 = 3", "size 1 = 2", "size 2 = 0", "size 12 = 0"));
        Runs.run("Promise 6: directly in the directory", "new 1", "mount = 1", "makeDir 1 = 0", "makeDir 11 = 0",
            "makeDir 111 = 0", "makeDir 1111 = 0", "makeDir 1112 = 0", "makeDir 1113 = 0", "size 0 = 1", "size 1 = 1",
            "size 11 = 1", "size 111 = 3", "size 1111 = 0");
        Runs.run("Promise 6: whiteouts and what they hide do not count", "new 1", "put 0 1 2 0 = 1", "put 0 11 1 1 = 1",
            "put 0 12 4 0 = 1", "put 1 1 2 0 = 1", "put 1 11 4 0 = 1", "put 1 13 4 0 = 1", "mount = 1", "size 1 = 0",
            "size 0 = 1", "objects = 1");
    }

    private static void names() {
        Runs.run("Promise 7: BAD, NONE, IS_FILE as for size, whatever i is", Runs.rows(TREE, "mount = 1",
            "name -1 0 = BAD", "name 6 0 = BAD", "name 6 -1 = BAD", "name 36 9 = BAD", "name 4 0 = NONE",
            "name 5 0 = NONE", "name 51 0 = NONE", "name 31 0 = NONE", "name 3 0 = IS_FILE", "name 3 -1 = IS_FILE",
            "name 3 5 = IS_FILE", "name 11 " + LEAST + " = IS_FILE", "name 11 " + MOST + " = IS_FILE"));
        Runs.run("Promise 7: NONE when there are not so many", Runs.rows(TREE, "mount = 1", "name 2 -1 = NONE",
            "name 2 0 = NONE", "name 2 1 = NONE", "name 1 -1 = NONE", "name 1 0 = 1", "name 1 1 = 2", "name 1 2 = NONE",
            "name 1 3 = NONE", "name 0 -1 = NONE", "name 0 0 = 1", "name 0 1 = 2", "name 0 2 = 3", "name 0 3 = NONE",
            "name 0 4 = NONE", "name 0 5 = NONE"));
    }

    /** Every set of names in a directory of every depth: the first, the last, one before and one after them. */
    private static void eachNumberOfNames() {
        for (int directory : new int[] {0, 4, 42, 423}) {
            for (int set = 0; set < 32; set++) {
                String[] rows = {"new 2", "put 0 4 2 0 = 1", "put 0 42 2 0 = 1", "put 0 423 2 0 = 1"};
                List<Integer> due = new ArrayList<>();
                for (int name = 1; name <= 5; name++) {
                    int path = directory * 10 + name;
                    boolean isThere = List.of(4, 42, 423).contains(path);
                    boolean isChosen = (set >> name - 1 & 1) == 1;
                    if (isChosen && !isThere) {
                        rows = Runs.rows(rows, "put 0 " + path + " 1 1 = 1");
                    }
                    if (isChosen || isThere) {
                        due.add(name);
                    }
                }
                rows = Runs.rows(rows, "mount = 1", "size " + directory + " = " + due.size(),
                    "name " + directory + " -1 = NONE", "name " + directory + " " + due.size() + " = NONE");
                for (int i = 0; i < due.size(); i++) {
                    rows = Runs.rows(rows, "name " + directory + " " + i + " = " + due.get(i));
                }
                Runs.run("Promise 7: by ascending names", rows);
            }
        }
    }

    private static void numbersOfNames() {
        for (int shift = 3; shift < 32; shift++) {
            for (int near = 0; near < 3; near++) {
                Runs.run("Promise 7: i does not wrap", "new 1", "put 0 1 1 1 = 1", "put 0 2 1 1 = 1", "put 0 3 1 1 = 1",
                    "mount = 1", "name 0 " + ((1 << shift) + near) + " = NONE",
                    "name 0 " + (-(1 << shift) + near) + " = NONE", "name 0 " + near + " = " + (near + 1));
            }
        }
    }

    private static void objects() {
        Runs.run("Promise 8: none, the root not counted", "new 3", "objects = UNMOUNTED", "mount = 1", "objects = 0",
            "write 1 1 = 0", "objects = 1", "remove 1 = 0", "objects = 0");
        Runs.run("Promise 8: as many as may be", Runs.rows("new 3", Runs.filling(0, 30, 1), Runs.filling(1, 29, 2),
            "put 2 3 3 0 = 1", Runs.filling(3, 30, 4), "mount = 1", "objects = 90", "size 0 = 4", "remove 111 = FULL",
            "remove 411 = 0", "objects = 89", "write 411 1 = 0", "objects = 90"));
        Runs.run("Promise 8: an object of several layers counts once", "new 3", "put 0 1 2 0 = 1", "put 1 1 2 0 = 1",
            "put 2 1 2 0 = 1", "put 3 1 2 0 = 1", "put 0 11 1 1 = 1", "put 3 11 1 1 = 1", "mount = 1", "objects = 2");
        Runs.run("Promise 8: all four levels", "new 1", "put 0 5 2 0 = 1", "put 0 55 2 0 = 1", "put 0 555 2 0 = 1",
            "put 0 5555 1 1 = 1", "put 0 1 2 0 = 1", "put 0 11 2 0 = 1", "put 0 111 2 0 = 1", "put 0 1111 2 0 = 1",
            "mount = 1", "objects = 8");
    }

    private static void origins() {
        Runs.run("Promise 9: BAD also at the root, NONE", Runs.rows(TREE, "mount = 1", "origin 0 = BAD",
            "origin -1 = BAD", "origin 6 = BAD", "origin 16 = BAD", "origin 36 = BAD", "origin 11111 = BAD",
            "origin 4 = NONE", "origin 5 = NONE", "origin 51 = NONE", "origin 31 = NONE", "origin 3 = 0",
            "origin 1 = 0"));
        for (int upper = 1; upper <= 3; upper++) {
            for (int layer = 0; layer <= upper; layer++) {
                Runs.run("Promise 9: from the lowest layer to the upper one", "new " + upper,
                    "put " + layer + " 1 1 1 = 1", "put " + layer + " 2 2 0 = 1", "put " + layer + " 21 1 1 = 1",
                    "put " + layer + " 3 3 0 = 1", "mount = 1", "origin 1 = " + layer, "origin 2 = " + layer,
                    "origin 21 = " + layer, "origin 3 = " + layer, "write 1 2 = 0", "origin 1 = " + upper,
                    "write 22 1 = 0", "origin 2 = " + upper, "origin 21 = " + layer);
            }
        }
        Runs.run("Promise 9: the layer of the first entry", "new 3", "put 0 1 2 0 = 1", "put 1 1 2 0 = 1",
            "put 2 1 3 0 = 1", "put 0 2 1 1 = 1", "put 1 2 1 1 = 1", "put 2 3 2 0 = 1", "put 3 3 2 0 = 1",
            "mount = 1", "origin 1 = 2", "origin 2 = 1", "origin 3 = 3");
    }

    private static void looksChangeNothing() {
        String[] looks = {"kind 1 = 2", "kind 4 = 0", "kind 6 = BAD", "read 3 = 7", "read 4 = NONE",
            "read 1 = IS_DIRECTORY", "size 0 = 3", "size 3 = IS_FILE", "name 0 2 = 3", "name 0 3 = NONE",
            "objects = 5", "origin 11 = 0", "origin 0 = BAD", "entry 0 51 = 1", "entry 1 5 = 4", "entry 2 5 = BAD",
            "entryValue 0 51 = 8", "entryValue 0 5 = NONE", "entries 0 = 7", "entries 1 = 1", "entries 2 = BAD",
            "whiteouts = 1", "copies = 0"};
        for (String look : looks) {
            Runs.run("looking changes nothing", Runs.rows(TREE, "mount = 1", look + " unchanged"));
        }
        for (String look : new String[] {"kind 1", "read 3", "size 0", "name 0 0", "objects", "origin 1"}) {
            Runs.run("looking before mounting changes nothing", Runs.rows(TREE, look + " = UNMOUNTED unchanged"));
        }
    }
}
