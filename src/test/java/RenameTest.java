/** Promise 13: rename. */
public final class RenameTest {
    public static void main(String[] args) {
        files();
        directories();
        overEmptyDirectories();
        mergedDirectories();
        refusals();
        orderOfRefusals();
        deep();
        full();
        Runs.end();
    }

    private static void files() {
        Runs.run("an upper file", "new 1", "mount = 1", "write 1 7 = 0", "rename 1 2 = 0", "kind 1 = 0", "read 2 = 7",
            "entry 1 1 = 0", "entry 1 2 = 1", "entries 1 = 1", "copies = 0", "whiteouts = 0");
        Runs.run("a lower file", "new 1", "put 0 1 1 7 = 1", "mount = 1", "rename 1 2 = 0", "kind 1 = 0", "read 2 = 7",
            "entry 1 1 = 4", "origin 2 = 1", "copies = 0", "whiteouts = 1", "rename 2 1 = 0", "entry 1 1 = 1",
            "entry 1 2 = 0", "read 1 = 7", "whiteouts = 0", "entries 1 = 1");
        Runs.run("a file onto a file", "new 1", "put 0 1 1 7 = 1", "put 0 2 1 8 = 1", "put 0 3 1 9 = 1", "mount = 1",
            "rename 1 2 = 0", "read 2 = 7", "entries 1 = 2", "copies = 0", "rename 3 2 = 0", "read 2 = 9",
            "objects = 1", "whiteouts = 2", "copies = 0");
        Runs.run("both parents are raised", "new 1", "put 0 1 2 0 = 1", "put 0 11 2 0 = 1", "put 0 111 1 5 = 1",
            "put 0 2 2 0 = 1", "put 0 21 2 0 = 1", "mount = 1", "rename 111 212 = 0", "copies = 4", "entry 1 1 = 2",
            "entry 1 11 = 2", "entry 1 111 = 4", "entry 1 2 = 2", "entry 1 21 = 2", "entry 1 212 = 1", "read 212 = 5",
            "entries 1 = 6");
        Runs.run("only the target's parent is raised where nothing is covered", "new 1", "put 0 2 2 0 = 1",
            "put 1 1 2 0 = 1", "put 1 11 1 5 = 1", "mount = 1", "rename 11 21 = 0", "copies = 1", "entry 1 11 = 0",
            "entries 1 = 3");
        Runs.run("the same path", "new 1", "put 0 1 1 7 = 1", "put 0 2 2 0 = 1", "put 0 21 1 1 = 1", "mount = 1",
            "rename 1 1 = 0", "rename 2 2 = 0", "rename 21 21 = 0", "entries 1 = 0", "copies = 0", "origin 1 = 0",
            "rename 3 3 = NONE", "rename 0 0 = BAD", "rename 6 6 = BAD");
    }

    private static void directories() {
        Runs.run("a directory with all in it", "new 2", "put 0 1 2 0 = 1", "put 0 11 1 1 = 1", "put 0 12 2 0 = 1",
            "put 0 121 1 2 = 1", "put 0 13 1 3 = 1", "put 1 1 2 0 = 1", "put 1 13 4 0 = 1", "put 1 125 1 9 = 0",
            "put 2 1 2 0 = 1", "put 2 12 2 0 = 1", "put 2 124 2 0 = 1", "mount = 1", "rename 1 3 = 0",
            "entry 2 3 = 2", "entry 2 31 = 1", "entry 2 32 = 2", "entry 2 321 = 1", "entry 2 324 = 2", "entry 2 33 = 0",
            "entry 2 1 = 4", "entry 2 12 = 0", "entry 2 124 = 0", "read 31 = 1", "read 321 = 2", "kind 1 = 0",
            "kind 11 = 0", "objects = 5", "entries 2 = 6", "copies = 0", "whiteouts = 1");
        Runs.run("a directory into another, and deeper", "new 1", "mount = 1", "makeDir 1 = 0", "write 11 4 = 0",
            "makeDir 12 = 0", "makeDir 2 = 0", "makeDir 21 = 0", "rename 1 215 = 0", "read 2151 = 4", "kind 2152 = 2",
            "kind 1 = 0", "objects = 5", "entries 1 = 5", "rename 215 5 = 0", "read 51 = 4", "size 21 = 0",
            "objects = 5");
        Runs.run("up, out of itself", "new 1", "put 0 1 2 0 = 1", "put 0 12 2 0 = 1", "put 0 123 2 0 = 1",
            "put 0 1234 1 8 = 1", "mount = 1", "rename 123 2 = 0", "read 24 = 8", "entry 1 123 = 4", "size 12 = 0",
            "copies = 2", "rename 12 1 = NOT_EMPTY", "rename 12 11 = 0", "entry 1 12 = 4", "entry 1 11 = 2",
            "copies = 2", "kind 123 = 0", "size 11 = 0", "entries 1 = 5");
        Runs.run("all four levels and all names", "new 1", "put 0 1 2 0 = 1", "put 0 15 2 0 = 1", "put 0 155 2 0 = 1",
            "put 0 1555 1 1 = 1", "put 0 1551 1 2 = 1", "put 0 11 2 0 = 1", "put 0 111 2 0 = 1", "put 0 1111 2 0 = 1",
            "put 0 153 1 3 = 1", "mount = 1", "rename 1 5 = 0", "read 5555 = 1", "read 5551 = 2", "kind 5111 = 2",
            "read 553 = 3", "objects = 9", "entries 1 = 10");
        Runs.run("what was noted before does not come back", "new 1", "mount = 1", "makeDir 1 = 0", "makeDir 11 = 0",
            "write 111 1 = 0", "rename 1 2 = 0", "write 3 9 = 0", "rename 3 4 = 0", "objects = 4", "makeDir 5 = 0",
            "rename 5 1 = 0", "size 1 = 0", "objects = 5");
    }

    private static void overEmptyDirectories() {
        Runs.run("onto an empty lower directory", "new 1", "put 0 1 2 0 = 1", "put 0 11 1 1 = 1", "put 0 2 2 0 = 1",
            "mount = 1", "rename 1 2 = 0", "entry 1 2 = 3", "entry 1 21 = 1", "read 21 = 1", "entry 1 1 = 4",
            "entries 1 = 3");
        Runs.run("onto a directory emptied by whiteouts", "new 1", "put 0 2 2 0 = 1", "put 0 21 1 1 = 1",
            "put 0 22 1 2 = 1", "put 1 1 2 0 = 1", "put 1 12 1 5 = 1", "put 1 2 2 0 = 1", "put 1 21 4 0 = 1",
            "put 1 22 4 0 = 1", "mount = 1", "rename 1 2 = 0", "entry 1 2 = 3", "entry 1 21 = 0", "read 22 = 5",
            "size 2 = 1", "entries 1 = 2", "whiteouts = 0", "entry 1 1 = 0");
        Runs.run("onto an empty upper directory", "new 1", "mount = 1", "makeDir 1 = 0", "write 11 1 = 0",
            "makeDir 2 = 0", "rename 1 2 = 0", "entry 1 2 = 2", "read 21 = 1", "entries 1 = 2", "objects = 2");
        Runs.run("an empty one onto an empty one", "new 1", "put 0 1 2 0 = 1", "put 0 2 3 0 = 1", "mount = 1",
            "rename 1 2 = 0", "entry 1 1 = 4", "entry 1 2 = 3", "objects = 1");
        Runs.run("onto a whiteout over a lower directory", "new 1", "put 0 1 2 0 = 1", "put 0 12 2 0 = 1",
            "put 0 2 2 0 = 1", "put 0 21 1 1 = 1", "put 0 22 2 0 = 1", "put 0 221 1 1 = 1", "put 1 2 4 0 = 1",
            "mount = 1", "rename 1 2 = 0", "entry 1 2 = 3", "entry 1 22 = 2", "size 2 = 1", "size 22 = 0",
            "objects = 2");
        Runs.run("onto a whiteout over a lower file", "new 1", "put 0 1 1 1 = 1", "put 1 1 4 0 = 1",
            "put 1 2 2 0 = 1", "mount = 1", "rename 2 1 = 0", "entry 1 1 = 3", "entries 1 = 1", "rename 1 2 = 0",
            "entry 1 2 = 2", "entry 1 1 = 4");
    }

    private static void mergedDirectories() {
        Runs.run("a moved opaque directory is opaque only if its new path is covered", "new 1", "put 0 1 2 0 = 1",
            "put 0 11 1 1 = 1", "put 1 1 3 0 = 1", "put 1 12 3 0 = 1", "mount = 1", "rename 1 2 = 0", "entry 1 2 = 2",
            "entry 1 22 = 2", "entry 1 1 = 4", "kind 21 = 0", "rename 2 1 = 0", "entry 1 1 = 3", "entry 1 12 = 2",
            "kind 11 = 0", "entry 1 2 = 0", "whiteouts = 0");
        Runs.run("whiteouts are not moved", "new 1", "put 0 1 2 0 = 1", "put 0 11 1 1 = 1", "put 0 12 1 2 = 1",
            "mount = 1", "remove 11 = 0", "rename 1 2 = 0", "entry 1 21 = 0", "entry 1 22 = 1", "whiteouts = 1",
            "entries 1 = 3");
        Runs.run("values come from the layer that decides", "new 3", "put 0 1 2 0 = 1", "put 0 11 1 1 = 1",
            "put 0 12 1 2 = 1", "put 0 13 1 3 = 1", "put 1 1 2 0 = 1", "put 1 12 1 22 = 1", "put 2 1 2 0 = 1",
            "put 2 13 1 33 = 1", "put 3 1 2 0 = 1", "put 3 14 1 44 = 1", "mount = 1", "rename 1 5 = 0", "read 51 = 1",
            "read 52 = 22", "read 53 = 33", "read 54 = 44", "origin 51 = 3", "size 5 = 4");
    }

    private static void refusals() {
        Runs.run("unmounted", "new 1", "put 1 1 1 1 = 1", "rename 1 2 = UNMOUNTED", "rename 0 9 = UNMOUNTED",
            "rename 1 1 = UNMOUNTED", "entry 1 1 = 1");
        Runs.run("no paths", "new 1", "put 0 1 1 1 = 1", "mount = 1", "rename 0 1 = BAD", "rename 1 0 = BAD",
            "rename -1 1 = BAD", "rename 1 -1 = BAD", "rename 6 1 = BAD", "rename 1 6 = BAD", "rename 1 10 = BAD",
            "rename 11111 2 = BAD", "rename 1 11111 = BAD", "rename 2 9 = BAD", "read 1 = 1", "entries 1 = 0");
        Runs.run("each refusal", "new 1", "put 0 1 2 0 = 1", "put 0 11 1 1 = 1", "put 0 2 1 5 = 1", "put 0 3 2 0 = 1",
            "put 0 4 2 0 = 1", "put 0 41 1 2 = 1", "mount = 1", "rename 5 3 = NONE", "rename 12 3 = NONE",
            "rename 21 3 = NONE", "rename 1 12 = INSIDE", "rename 1 1234 = INSIDE", "rename 2 21 = INSIDE",
            "rename 1 51 = NO_PARENT", "rename 1 21 = NO_PARENT", "rename 2 111 = NO_PARENT",
            "rename 2 1 = IS_DIRECTORY", "rename 2 3 = IS_DIRECTORY", "rename 11 1 = IS_DIRECTORY",
            "rename 1 2 = IS_FILE", "rename 3 11 = IS_FILE", "rename 1 4 = NOT_EMPTY", "rename 3 4 = NOT_EMPTY",
            "entries 1 = 0", "copies = 0", "whiteouts = 0", "objects = 6");
        Runs.run("like digits are not yet inside", "new 1", "mount = 1", "makeDir 1 = 0", "makeDir 2 = 0",
            "makeDir 21 = 0", "rename 1 211 = 0", "kind 211 = 2", "rename 211 1 = 0", "makeDir 12 = 0",
            "makeDir 122 = 0", "rename 12 2 = NOT_EMPTY", "rename 2 123 = 0", "kind 1231 = 2");
    }

    private static void orderOfRefusals() {
        Runs.run("NONE before all that is said of the target", "new 1", "put 0 1 1 1 = 1", "mount = 1",
            "rename 2 21 = NONE", "rename 2 31 = NONE", "rename 2 11 = NONE", "rename 2 2 = NONE");
        Runs.run("INSIDE before NO_PARENT, NO_PARENT before DEEP", "new 1", "put 0 1 2 0 = 1", "put 0 11 2 0 = 1",
            "put 0 111 2 0 = 1", "put 0 1111 2 0 = 1", "put 0 2 1 1 = 1", "put 0 3 2 0 = 1", "mount = 1",
            "rename 1 1555 = INSIDE", "rename 1111 1112 = 0", "rename 2 2222 = INSIDE", "rename 1 21 = NO_PARENT",
            "rename 1 4444 = NO_PARENT", "rename 1 31 = DEEP", "rename 1 11 = INSIDE");
        Runs.run("NOT_EMPTY and IS_FILE before DEEP", "new 1", "put 0 1 2 0 = 1", "put 0 11 2 0 = 1",
            "put 0 111 2 0 = 1", "put 0 1111 1 1 = 1", "put 0 2 2 0 = 1", "put 0 21 2 0 = 1", "put 0 211 1 1 = 1",
            "put 0 22 1 1 = 1", "put 0 23 2 0 = 1", "mount = 1", "rename 1 21 = NOT_EMPTY", "rename 1 22 = IS_FILE",
            "rename 1 23 = DEEP", "rename 1 24 = DEEP", "entries 1 = 0", "copies = 0");
    }

    private static void deep() {
        Runs.run("not more than four names", "new 1", "put 0 1 2 0 = 1", "put 0 11 2 0 = 1", "put 0 111 1 1 = 1",
            "put 0 2 2 0 = 1", "put 0 21 2 0 = 1", "put 0 211 2 0 = 1", "mount = 1", "rename 1 2111 = DEEP",
            "rename 1 212 = DEEP", "rename 11 2111 = DEEP", "entries 1 = 0", "rename 111 2111 = 0",
            "rename 1 213 = 0", "kind 2131 = 2", "rename 213 1 = 0", "write 111 3 = 0", "rename 1 22 = 0",
            "read 2211 = 3");
        Runs.run("hidden entries are not too deep", "new 1", "put 0 1 2 0 = 1", "put 0 11 2 0 = 1", "put 0 111 1 1 = 1",
            "put 0 112 1 1 = 1", "put 1 2 2 0 = 1", "put 1 21 2 0 = 1", "mount = 1", "rename 1 212 = DEEP",
            "remove 111 = 0", "rename 1 212 = DEEP", "remove 112 = 0", "rename 1 212 = 0", "kind 2121 = 2",
            "size 2121 = 0");
        Runs.run("four names already", "new 1", "mount = 1", "makeDir 1 = 0", "makeDir 11 = 0", "makeDir 111 = 0",
            "makeDir 1111 = 0", "write 1112 2 = 0", "rename 1111 1113 = 0", "kind 1113 = 2", "rename 1112 1115 = 0",
            "read 1115 = 2", "rename 1113 5 = 0", "size 5 = 0", "objects = 5");
    }

    private static void full() {
        String[] filled = Runs.rows("new 1", "put 0 5 2 0 = 1", "put 0 51 2 0 = 1", "put 0 511 1 1 = 1",
            "put 0 512 1 2 = 1", "put 0 52 2 0 = 1", "put 1 1 2 0 = 1", "put 1 2 2 0 = 1", "put 1 3 2 0 = 1",
            "put 1 4 2 0 = 1", Runs.fiveFiles(1, 1), Runs.fiveFiles(1, 2), Runs.fiveFiles(1, 3), Runs.fiveFiles(1, 4));
        Runs.run("30 entries are not too many", Runs.rows(filled, "put 1 5 2 0 = 1", "put 1 55 1 1 = 1", "mount = 1",
            "entries 1 = 26", "rename 51 53 = 0", "entries 1 = 30", "entry 1 51 = 4", "read 531 = 1", "copies = 0"));
        Runs.run("31 are", Runs.rows(filled, "put 1 5 2 0 = 1", "put 1 55 1 1 = 1", "put 1 54 4 0 = 1", "mount = 1",
            "entries 1 = 27", "rename 51 53 = FULL", "entries 1 = 27", "read 511 = 1", "kind 53 = 0", "entry 1 51 = 0",
            "whiteouts = 1", "copies = 0", "rename 51 54 = 0", "entries 1 = 30", "entry 1 54 = 2", "whiteouts = 1"));
        Runs.run("raised directories count, and are not counted when refused", Runs.rows(filled, "mount = 1",
            "entries 1 = 24", "rename 5 521 = INSIDE", "rename 51 521 = 0", "entries 1 = 30", "copies = 2",
            "rename 512 53 = NONE", "rename 5212 53 = 0", "entries 1 = 30"));
        Runs.run("only the end counts, not what is made before from is unmade", Runs.rows(filled, "put 1 5 2 0 = 1",
            "put 1 55 1 1 = 1", "put 1 54 1 1 = 1", "put 1 53 1 1 = 1", "mount = 1", "entries 1 = 28",
            "remove 11 = 0", "makeDir 11 = 0", "write 111 1 = 0", "write 112 1 = 0", "entries 1 = 30",
            "rename 2 113 = 0", "entries 1 = 30", "objects = 34", "read 1131 = 1", "kind 2 = 0", "rename 1 2 = 0",
            "entries 1 = 30", "read 2131 = 1"));
        Runs.run("FULL comes last", Runs.rows(filled, "put 1 5 2 0 = 1", "put 1 55 1 1 = 1", "put 1 54 1 1 = 1",
            "put 1 53 1 1 = 1", "mount = 1", "write 521 1 = 0", "entries 1 = 30", "rename 6 1 = BAD",
            "rename 522 1 = NONE", "rename 51 51 = 0", "rename 51 512 = INSIDE", "rename 51 111 = NO_PARENT",
            "rename 511 1 = IS_DIRECTORY", "rename 51 53 = IS_FILE", "rename 51 1 = NOT_EMPTY", "rename 5 52 = INSIDE",
            "rename 511 522 = FULL", "rename 511 53 = FULL", "entries 1 = 30", "copies = 1", "read 53 = 1",
            "rename 53 55 = 0", "entries 1 = 29"));
    }
}
