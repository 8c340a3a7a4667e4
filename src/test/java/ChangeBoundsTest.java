/** Terms: covered paths, raising, making, unmaking and copy-ups, each at the edges that its sentences name. */
public final class ChangeBoundsTest {
    private static final int MOST = Integer.MAX_VALUE;

    public static void main(String[] args) {
        coveredByEachKind();
        coveredInEachParent();
        raising();
        raisingOnlyWhatIsMissing();
        making();
        makingWhereEntriesAre();
        unmaking();
        unmakingTakesAllBelow();
        copyUps();
        mostCopyUps();
        renameNotesFirst();
        renameDepths();
        renameOntoEachKind();
        Runs.end();
    }

    /** An upper file goes from 1 over lower entries of each kind: what is left or made shows whether 1 is covered. */
    private static void coveredByEachKind() {
        for (int below = 0; below <= 4; below++) {
            for (int lowest = 0; lowest <= 4; lowest++) {
                // The first entry below the upper one decides; the one below that is looked at only when there is none.
                int deciding = below == 0 ? lowest : below;
                boolean covered = deciding >= 1 && deciding <= 3;
                String[] begin = Runs.rows("new 2", lowest == 0 ? "entries 0 = 0" : "put 0 1 " + lowest + " 1 = 1",
                    below == 0 ? "entries 1 = 0" : "put 1 1 " + below + " 1 = 1", "put 2 1 1 1 = 1", "mount = 1");
                Runs.run("Terms: a whiteout is put if the path is covered", Runs.rows(begin, "remove 1 = 0",
                    "entry 2 1 = " + (covered ? 4 : 0), "whiteouts = " + (covered ? 1 : 0), "kind 1 = 0",
                    "copies = 0"));
                Runs.run("Terms: an opaque directory is put if the path is covered", Runs.rows(begin, "remove 1 = 0",
                    "makeDir 1 = 0", "entry 2 1 = " + (covered ? 3 : 2), "size 1 = 0", "copies = 0"));
                Runs.run("Terms: for a file the same entry, covered or not", Runs.rows(begin, "write 1 2 = 0",
                    "entry 2 1 = 1", "remove 1 = 0", "write 1 3 = 0", "entry 2 1 = 1", "entries 2 = 1", "copies = 0"));
            }
        }
    }

    private static void coveredInEachParent() {
        String[] lower = {"new 2", "put 0 1 2 0 = 1", "put 0 12 1 7 = 1"};
        Runs.run("Terms: covered, where the upper layer is no part of the parent", Runs.rows(lower, "mount = 1",
            "remove 12 = 0", "entry 2 1 = 2", "entry 2 12 = 4"));
        Runs.run("Terms: covered, where the upper layer is a part of the parent", Runs.rows(lower, "put 2 1 2 0 = 1",
            "put 2 12 1 8 = 1", "mount = 1", "remove 12 = 0", "entry 2 12 = 4"));
        Runs.run("Terms: not covered, where the upper layer is the only part", Runs.rows(lower, "put 2 1 3 0 = 1",
            "put 2 12 1 8 = 1", "mount = 1", "remove 12 = 0", "entry 2 12 = 0", "makeDir 12 = 0", "entry 2 12 = 2"));
        Runs.run("Terms: not covered by a layer that is no part of the parent", Runs.rows(lower, "put 1 1 3 0 = 1",
            "put 2 1 2 0 = 1", "put 2 12 1 8 = 1", "mount = 1", "remove 12 = 0", "entry 2 12 = 0"));
        Runs.run("Terms: not covered below a lower whiteout", Runs.rows(lower, "put 1 1 4 0 = 1",
            "put 2 1 2 0 = 1", "put 2 12 1 8 = 1", "mount = 1", "remove 12 = 0", "entry 2 12 = 0"));
        Runs.run("Terms: not covered below a lower file", Runs.rows(lower, "put 1 1 1 0 = 1",
            "put 2 1 2 0 = 1", "put 2 12 1 8 = 1", "mount = 1", "remove 12 = 0", "entry 2 12 = 0"));
        Runs.run("Terms: covered by the layer of an opaque directory", "new 2", "put 1 1 3 0 = 1", "put 1 12 1 7 = 1",
            "put 2 1 2 0 = 1", "put 2 12 1 8 = 1", "mount = 1", "remove 12 = 0", "entry 2 12 = 4");
    }

    private static void raising() {
        String[] lower = {"new 1", "put 0 1 2 0 = 1", "put 0 12 3 0 = 1", "put 0 123 2 0 = 1", "put 0 124 1 4 = 1",
            "put 0 13 1 3 = 1", "put 0 2 1 2 = 1", "mount = 1"};
        Runs.run("Terms: the root is not raised", Runs.rows(lower, "write 5 1 = 0", "copies = 0", "entries 1 = 1",
            "makeDir 4 = 0", "copies = 0", "remove 2 = 0", "copies = 0", "rename 4 3 = 0", "copies = 0",
            "entries 1 = 3"));
        Runs.run("Terms: one directory is raised", Runs.rows(lower, "makeDir 14 = 0", "copies = 1", "entry 1 1 = 2",
            "entry 1 12 = 0", "entries 1 = 2", "origin 1 = 1", "origin 12 = 0"));
        Runs.run("Terms: two are raised, an opaque one to one that is not opaque", Runs.rows(lower, "write 125 1 = 0",
            "copies = 2", "entry 1 1 = 2", "entry 1 12 = 2", "entry 1 123 = 0", "entries 1 = 3", "read 124 = 4",
            "size 12 = 3"));
        Runs.run("Terms: three are raised", Runs.rows(lower, "write 1234 1 = 0", "copies = 3", "entry 1 1 = 2",
            "entry 1 12 = 2", "entry 1 123 = 2", "entry 1 1234 = 1", "entries 1 = 4", "objects = 7"));
        Runs.run("Terms: for a whiteout the parent is raised, not the path", Runs.rows(lower, "remove 123 = 0",
            "copies = 2", "entry 1 1 = 2", "entry 1 12 = 2", "entry 1 123 = 4", "entries 1 = 3", "remove 13 = 0",
            "copies = 2", "entries 1 = 4"));
        Runs.run("Terms: raising takes nothing away", Runs.rows(lower, "write 1231 1 = 0", "kind 1 = 2", "kind 12 = 2",
            "kind 123 = 2", "read 124 = 4", "read 13 = 3", "size 1 = 2", "size 12 = 2", "origin 124 = 0",
            "origin 123 = 1"));
    }

    private static void raisingOnlyWhatIsMissing() {
        String[] lower = {"new 1", "put 0 1 2 0 = 1", "put 0 12 2 0 = 1", "put 0 123 2 0 = 1", "put 0 1234 1 1 = 1"};
        Runs.run("Terms: the outermost is there already", Runs.rows(lower, "put 1 1 2 0 = 1", "mount = 1",
            "write 1235 1 = 0", "copies = 2", "entries 1 = 4"));
        Runs.run("Terms: only the innermost is missing", Runs.rows(lower, "put 1 1 2 0 = 1", "put 1 12 2 0 = 1",
            "mount = 1", "remove 1234 = 0", "copies = 1", "entries 1 = 4"));
        Runs.run("Terms: none is missing", Runs.rows(lower, "put 1 1 2 0 = 1", "put 1 12 2 0 = 1", "put 1 123 2 0 = 1",
            "mount = 1", "remove 1234 = 0", "copies = 0", "entries 1 = 4"));
        Runs.run("Terms: an opaque directory that is there stays opaque", "new 1", "put 0 1 2 0 = 1", "put 0 11 1 1 = 1",
            "put 1 1 3 0 = 1", "mount = 1", "write 12 1 = 0", "entry 1 1 = 3", "copies = 0", "size 1 = 1");
    }

    private static void making() {
        Runs.run("Terms: the entry at the path goes with all below it, to four names", "new 1", "put 0 1 1 5 = 1",
            "put 1 2 2 0 = 1", "put 1 21 4 0 = 1", "put 1 22 4 0 = 1", "put 1 23 4 0 = 1", "put 1 3 2 0 = 1",
            "put 1 31 1 1 = 1", "mount = 1", "rename 3 2 = 0", "entry 1 2 = 2", "entry 1 21 = 1", "entry 1 22 = 0",
            "entry 1 23 = 0", "entry 1 3 = 0", "entries 1 = 2", "whiteouts = 0", "size 2 = 1");
        Runs.run("Terms: a directory over whiteouts at each depth", "new 1", "put 0 1 2 0 = 1", "put 0 11 2 0 = 1",
            "put 0 111 2 0 = 1", "put 0 1111 2 0 = 1", "mount = 1", "remove 1111 = 0", "makeDir 1111 = 0",
            "entry 1 1111 = 3", "remove 1111 = 0", "remove 111 = 0", "makeDir 111 = 0", "entry 1 111 = 3",
            "makeDir 1111 = 0", "entry 1 1111 = 2", "remove 1111 = 0", "entry 1 1111 = 0", "remove 111 = 0",
            "remove 11 = 0", "makeDir 11 = 0", "entry 1 11 = 3", "makeDir 111 = 0", "entry 1 111 = 2",
            "remove 111 = 0", "remove 11 = 0", "remove 1 = 0", "makeDir 1 = 0", "entry 1 1 = 3", "makeDir 11 = 0",
            "entry 1 11 = 2", "entries 1 = 2", "copies = 3");
        Runs.run("Terms: a file has its value and no other", "new 1", "put 0 1 1 5 = 1", "mount = 1",
            "write 1 0 = 0", "read 1 = 0", "write 1 " + MOST + " = 0", "read 1 = " + MOST, "entryValue 0 1 = 5");
    }

    private static void makingWhereEntriesAre() {
        Runs.run("Promise 11: also where a file is, lower and upper", "new 2", "put 0 1 1 5 = 1", "put 1 2 1 6 = 1",
            "put 2 3 1 7 = 1", "mount = 1", "write 1 1 = 0", "write 2 2 = 0", "write 3 3 = 0", "read 1 = 1", "read 2 = 2",
            "read 3 = 3", "objects = 3", "entries 2 = 3", "write 1 4 = 0", "entries 2 = 3", "read 1 = 4");
        Runs.run("Terms: what lies beside the path stays", "new 1", "put 1 1 2 0 = 1", "put 1 11 1 1 = 1",
            "put 1 12 4 0 = 1", "put 1 13 2 0 = 1", "put 1 131 1 3 = 1", "put 1 2 2 0 = 1", "put 1 22 1 2 = 1",
            "mount = 1", "write 12 9 = 0", "read 11 = 1", "read 131 = 3", "read 22 = 2", "entries 1 = 7",
            "rename 12 11 = 0", "read 11 = 9", "read 131 = 3", "read 22 = 2", "entries 1 = 6");
    }

    private static void unmaking() {
        Runs.run("Terms: no entry of the upper layer, covered", "new 1", "put 0 1 1 1 = 1", "mount = 1", "remove 1 = 0",
            "entry 1 1 = 4", "entries 1 = 1", "copies = 0");
        Runs.run("Terms: an entry of the upper layer, covered", "new 1", "put 0 1 1 1 = 1", "put 1 1 1 2 = 1",
            "mount = 1", "remove 1 = 0", "entry 1 1 = 4", "entries 1 = 1");
        Runs.run("Terms: an entry of the upper layer, not covered", "new 1", "put 1 1 1 2 = 1", "mount = 1",
            "remove 1 = 0", "entry 1 1 = 0", "entries 1 = 0", "whiteouts = 0");
        Runs.run("Promise 12: a directory without objects, having entries", "new 1", "put 0 1 2 0 = 1",
            "put 0 11 1 1 = 1", "mount = 1", "remove 1 = NOT_EMPTY", "remove 11 = 0", "remove 1 = 0", "entry 1 1 = 4",
            "entry 1 11 = 0", "entries 1 = 1", "whiteouts = 1");
        Runs.run("Promise 12: one object makes it not empty", "new 1", "put 0 1 2 0 = 1", "mount = 1", "write 15 1 = 0",
            "remove 1 = NOT_EMPTY", "remove 15 = 0", "remove 1 = 0", "remove 1 = NONE");
    }

    private static void unmakingTakesAllBelow() {
        Runs.run("Terms: the entry goes with all entries below it", "new 1", "put 0 1 2 0 = 1", "put 0 11 2 0 = 1",
            "put 0 111 2 0 = 1", "put 0 1111 1 1 = 1", "put 0 1115 1 5 = 1", "put 0 2 2 0 = 1", "put 0 21 1 7 = 1",
            "mount = 1", "write 1111 2 = 0", "write 1115 2 = 0", "write 21 8 = 0", "entries 1 = 7", "rename 1 5 = 0",
            "entry 1 1 = 4", "entry 1 11 = 0", "entry 1 111 = 0", "entry 1 1111 = 0", "entry 1 1115 = 0",
            "entry 1 2 = 2", "entry 1 21 = 1", "read 5111 = 2", "entries 1 = 8", "whiteouts = 1");
        Runs.run("Terms: what is hidden so does not come back", "new 1", "put 0 1 2 0 = 1", "put 0 11 1 1 = 1",
            "mount = 1", "remove 11 = 0", "remove 1 = 0", "makeDir 1 = 0", "size 1 = 0", "makeDir 11 = 0",
            "entry 1 11 = 2", "remove 11 = 0", "entry 1 11 = 0", "size 1 = 0");
    }

    private static void copyUps() {
        String[] lower = {"new 2", "put 0 1 2 0 = 1", "put 0 11 1 1 = 1", "put 1 2 1 2 = 1", "put 0 3 1 3 = 1",
            "put 2 3 1 4 = 1", "put 0 4 1 5 = 1", "put 2 4 4 0 = 1"};
        Runs.run("Terms: write where a file of a lower origin was", Runs.rows(lower, "mount = 1", "write 2 9 = 0",
            "copies = 1", "write 11 9 = 0", "copies = 3", "write 2 8 = 0", "write 11 8 = 0", "copies = 3"));
        Runs.run("Terms: write where a file of the upper layer was", Runs.rows(lower, "mount = 1", "write 3 9 = 0",
            "copies = 0"));
        Runs.run("Terms: write where nothing was", Runs.rows(lower, "mount = 1", "write 4 9 = 0", "write 5 9 = 0",
            "copies = 0", "write 12 9 = 0", "copies = 1"));
        Runs.run("Terms: files that rename puts are no copy-ups", Runs.rows(lower, "mount = 1", "rename 2 5 = 0",
            "copies = 0", "rename 5 3 = 0", "copies = 0", "rename 3 12 = 0", "copies = 1", "rename 1 2 = 0",
            "copies = 1"));
        Runs.run("Promise 18: none by what was refused", Runs.rows(lower, Runs.filling(2, 28, 5), "mount = 1",
            "entries 2 = 30", "write 11 9 = FULL", "write 12 9 = FULL", "makeDir 12 = FULL", "remove 11 = FULL",
            "rename 11 12 = FULL", "write 2 9 = FULL", "write 11 -1 = BAD", "write 111 1 = NO_PARENT",
            "write 1 1 = IS_DIRECTORY", "copies = 0"));
    }

    /** All of 60 lower entries are copied up; the directories that are done with go, since there is room for 30 only. */
    private static void mostCopyUps() {
        String[] rows = Runs.rows("new 1", Runs.filling(0, 60, 1, 2), "mount = 1");
        int copies = 0;
        for (int top = 1; top <= 2; top++) {
            copies++;
            for (int inner = 1; inner <= 5; inner++) {
                int directory = top * 10 + inner;
                copies++;
                for (int name = 1; name <= 5 && directory * 10 + name < 254; name++) {
                    copies++;
                    rows = Runs.rows(rows, "write " + directory + name + " 9 = 0", "copies = " + copies,
                        "remove " + directory + name + " = 0");
                }
                rows = Runs.rows(rows, "remove " + directory + " = 0", "copies = " + copies);
            }
        }
        Runs.run("Promise 18: every lower entry copied up once", Runs.rows(rows, "copies = 60", "objects = 2"));
    }

    private static void renameNotesFirst() {
        Runs.run("Promise 13: what is there goes", "new 1", "put 0 1 1 1 = 1", "put 0 2 1 2 = 1", "put 1 3 1 3 = 1",
            "mount = 1", "rename 1 2 = 0", "read 2 = 1", "kind 1 = 0", "objects = 2", "rename 2 3 = 0", "read 3 = 1",
            "kind 2 = 0", "objects = 1", "entries 1 = 3", "whiteouts = 2");
        Runs.run("Promise 13: all objects are noted before one is made", "new 1", "put 0 1 2 0 = 1", "put 0 11 2 0 = 1",
            "put 0 112 1 5 = 1", "put 0 12 1 6 = 1", "mount = 1", "rename 11 2 = 0", "read 22 = 5", "kind 11 = 0",
            "rename 2 11 = 0", "read 112 = 5", "entry 1 11 = 3", "read 12 = 6", "objects = 4");
        Runs.run("Promise 13: into the directory that it was in", "new 1", "put 0 1 2 0 = 1", "put 0 11 2 0 = 1",
            "put 0 12 2 0 = 1", "put 0 121 1 6 = 1", "mount = 1", "rename 12 11 = 0", "entry 1 1 = 2", "entry 1 11 = 3",
            "entry 1 12 = 4", "read 111 = 6", "copies = 1", "entries 1 = 4");
        Runs.run("Promise 13: an empty directory", "new 1", "put 0 1 2 0 = 1", "mount = 1", "rename 1 2 = 0",
            "entry 1 2 = 2", "entry 1 1 = 4", "size 2 = 0", "objects = 1");
    }

    /** A directory with objects of each height moved to each depth: DEEP begins above four names. */
    private static void renameDepths() {
        int[] parents = {0, 1, 11, 111};
        int[] objects = {5, 55, 555, 5555};
        for (int height = 1; height <= 4; height++) {
            for (int depth = 1; depth <= 4; depth++) {
                String[] rows = {"new 1", "put 0 1 2 0 = 1", "put 0 11 2 0 = 1", "put 0 111 2 0 = 1"};
                for (int level = 1; level <= height; level++) {
                    rows = Runs.rows(rows, "put 0 " + objects[level - 1] + (level == height ? " 1 9 = 1" : " 2 0 = 1"));
                }
                int to = parents[depth - 1] * 10 + 3;
                boolean deep = height - 1 + depth > 4;
                Runs.run("Promise 13: DEEP, a height of " + height + " at a depth of " + depth, Runs.rows(rows,
                    "mount = 1", "rename 5 " + to + " = " + (deep ? "DEEP" : "0"),
                    "read " + (deep ? objects[height - 1] : lowest(to, height)) + " = 9",
                    "kind 5 = " + (deep ? height == 1 ? 1 : 2 : 0), "objects = " + (3 + height)));
            }
        }
        Runs.run("Promise 13: what is hidden is no object that could get too deep", "new 1", "put 0 5 2 0 = 1",
            "put 0 51 2 0 = 1", "put 0 511 1 1 = 1", "put 1 5 2 0 = 1", "put 1 51 4 0 = 1", "put 1 1 2 0 = 1",
            "put 1 11 2 0 = 1", "put 1 111 2 0 = 1", "mount = 1", "rename 5 1111 = 0", "size 1111 = 0");
    }

    private static int lowest(int to, int height) {
        int path = to;
        for (int level = 1; level < height; level++) {
            path = path * 10 + 5;
        }
        return path;
    }

    private static void renameOntoEachKind() {
        String[] begin = {"new 1", "put 0 1 1 1 = 1", "put 0 2 2 0 = 1", "put 0 21 1 2 = 1", "put 1 31 1 1 = 0"};
        String[][] targets = {{}, {"put 0 3 1 5 = 1"}, {"put 0 3 2 0 = 1"}, {"put 0 3 3 0 = 1"}, {"put 0 3 4 0 = 1"},
            {"put 1 3 1 5 = 1"}, {"put 1 3 2 0 = 1"}, {"put 1 3 3 0 = 1"}, {"put 1 3 4 0 = 1"},
            {"put 0 3 2 0 = 1", "put 0 31 1 1 = 1"}, {"put 0 3 2 0 = 1", "put 0 31 1 1 = 1", "put 1 3 4 0 = 1"},
            {"put 0 3 2 0 = 1", "put 0 31 1 1 = 1", "put 1 3 3 0 = 1"}};
        String[] ofFile = {"0", "0", "IS_DIRECTORY", "IS_DIRECTORY", "0", "0", "IS_DIRECTORY", "IS_DIRECTORY", "0",
            "IS_DIRECTORY", "0", "IS_DIRECTORY"};
        String[] ofDirectory = {"0", "IS_FILE", "0", "0", "0", "IS_FILE", "0", "0", "0", "NOT_EMPTY", "0", "0"};
        int[] entryOfDirectory = {2, 0, 3, 3, 2, 0, 2, 2, 2, 0, 3, 3};
        for (int i = 0; i < targets.length; i++) {
            boolean moved = ofDirectory[i].equals("0");
            Runs.run("Promise 13: a file", Runs.rows(begin, targets[i], "mount = 1", "rename 1 3 = " + ofFile[i],
                "kind 1 = " + (ofFile[i].equals("0") ? 0 : 1)));
            Runs.run("Promise 13: a directory", Runs.rows(begin, targets[i], "mount = 1",
                "rename 2 3 = " + ofDirectory[i], "kind 2 = " + (moved ? 0 : 2)));
            if (moved) {
                Runs.run("Promise 13: the entry made for a directory", Runs.rows(begin, targets[i], "mount = 1",
                    "rename 2 3 = 0", "entry 1 3 = " + entryOfDirectory[i], "read 31 = 2", "size 3 = 1",
                    "entry 1 2 = 4"));
            }
        }
    }
}
