/** Promise 10: makeDir. */
public final class MakeDirTest {
    public static void main(String[] args) {
        plain();
        opaque();
        raising();
        refusals();
        full();
        Runs.end();
    }

    private static void plain() {
        Runs.run("where nothing was ever", "new 1", "mount = 1", "makeDir 1 = 0", "entry 1 1 = 2", "kind 1 = 2",
            "origin 1 = 1", "makeDir 11 = 0", "makeDir 111 = 0", "makeDir 1111 = 0", "entry 1 1111 = 2", "objects = 4",
            "entries 1 = 4", "entries 0 = 0", "copies = 0", "whiteouts = 0", "makeDir 5 = 0", "size 0 = 2");
        Runs.run("over a whiteout that covers nothing", "new 2", "put 2 1 4 0 = 1", "put 0 2 1 3 = 1",
            "put 1 2 4 0 = 1", "put 2 2 4 0 = 1", "mount = 1", "makeDir 1 = 0", "entry 2 1 = 2", "makeDir 2 = 0",
            "entry 2 2 = 2", "whiteouts = 0", "entries 2 = 2", "size 1 = 0", "size 2 = 0");
        Runs.run("in an opaque directory nothing is covered", "new 1", "put 0 1 2 0 = 1", "put 0 11 1 1 = 1",
            "put 1 1 3 0 = 1", "mount = 1", "kind 11 = 0", "makeDir 11 = 0", "entry 1 11 = 2", "remove 11 = 0",
            "entry 1 11 = 0", "whiteouts = 0");
    }

    private static void opaque() {
        Runs.run("over a lower directory", "new 1", "put 0 1 2 0 = 1", "put 0 11 1 1 = 1", "put 1 1 4 0 = 1",
            "mount = 1", "makeDir 1 = 0", "entry 1 1 = 3", "size 1 = 0", "kind 11 = 0", "whiteouts = 0", "objects = 1");
        Runs.run("over a lower file", "new 1", "put 0 1 1 9 = 1", "mount = 1", "remove 1 = 0", "makeDir 1 = 0",
            "entry 1 1 = 3", "kind 1 = 2", "origin 1 = 1");
        Runs.run("over an empty lower directory", "new 1", "put 0 1 2 0 = 1", "mount = 1", "remove 1 = 0",
            "makeDir 1 = 0", "entry 1 1 = 3");
    }

    private static void raising() {
        Runs.run("the parents are raised", "new 1", "put 0 1 2 0 = 1", "put 0 12 3 0 = 1", "put 0 123 2 0 = 1",
            "put 0 1231 1 4 = 1", "mount = 1", "makeDir 1234 = 0", "entry 1 1 = 2", "entry 1 12 = 2",
            "entry 1 123 = 2", "entry 1 1234 = 2", "copies = 3", "read 1231 = 4", "objects = 5", "entries 1 = 4",
            "origin 12 = 1", "origin 1231 = 0", "makeDir 1235 = 0", "copies = 3");
        Runs.run("only what is missing is raised", "new 1", "put 0 1 2 0 = 1", "put 0 11 2 0 = 1", "put 1 1 2 0 = 1",
            "mount = 1", "makeDir 111 = 0", "copies = 1", "entries 1 = 3");
    }

    private static void refusals() {
        Runs.run("unmounted", "new 1", "makeDir 1 = UNMOUNTED", "makeDir 0 = UNMOUNTED", "makeDir 9 = UNMOUNTED",
            "entries 1 = 0");
        Runs.run("refusals in their order", "new 1", "put 0 1 1 1 = 1", "put 0 2 2 0 = 1", "put 0 21 1 1 = 1",
            "mount = 1", "makeDir 0 = BAD", "makeDir -1 = BAD", "makeDir 6 = BAD", "makeDir 10 = BAD",
            "makeDir 36 = BAD", "makeDir 11111 = BAD", "makeDir 11 = NO_PARENT", "makeDir 31 = NO_PARENT",
            "makeDir 311 = NO_PARENT", "makeDir 211 = NO_PARENT", "makeDir 1 = EXISTS", "makeDir 2 = EXISTS",
            "makeDir 21 = EXISTS", "entries 1 = 0", "copies = 0", "makeDir 22 = 0", "makeDir 22 = EXISTS");
        Runs.run("no parent under a whiteout", "new 1", "put 0 1 2 0 = 1", "put 0 11 2 0 = 1", "put 1 1 4 0 = 1",
            "mount = 1", "makeDir 11 = NO_PARENT", "makeDir 111 = NO_PARENT", "makeDir 1 = 0", "makeDir 111 = NO_PARENT",
            "makeDir 11 = 0");
    }

    /** 27 entries in the upper layer, so that three more go in. */
    private static String[] nearlyFull() {
        return Runs.rows("new 1", "put 0 5 2 0 = 1", "put 0 51 2 0 = 1", "put 0 511 2 0 = 1", "put 0 5111 1 1 = 1",
            "put 1 1 2 0 = 1", "put 1 2 2 0 = 1", "put 1 3 2 0 = 1", "put 1 4 2 0 = 1", Runs.fiveFiles(1, 1),
            Runs.fiveFiles(1, 2), Runs.fiveFiles(1, 3), Runs.fiveFiles(1, 4), "put 1 5 2 0 = 1", "put 1 52 4 0 = 1",
            "put 1 53 4 0 = 1", "mount = 1", "entries 1 = 27");
    }

    private static void full() {
        Runs.run("30 entries are not too many", Runs.rows(nearlyFull(), "makeDir 5112 = 0", "entries 1 = 30",
            "copies = 2", "makeDir 5113 = FULL", "makeDir 54 = FULL", "entries 1 = 30", "copies = 2", "kind 54 = 0",
            "makeDir 5112 = EXISTS", "makeDir 541 = NO_PARENT", "makeDir 6 = BAD", "makeDir 52 = 0", "entries 1 = 30",
            "whiteouts = 1", "remove 5112 = 0", "entries 1 = 29", "makeDir 54 = 0", "entries 1 = 30"));
        Runs.run("what is raised counts", Runs.rows(nearlyFull(), "makeDir 54 = 0", "makeDir 5112 = FULL",
            "entries 1 = 28", "copies = 0", "entry 1 51 = 0", "entry 1 511 = 0", "whiteouts = 2", "objects = 29",
            "makeDir 512 = 0", "entries 1 = 30", "copies = 1"));
    }
}
