/** Promise 12: remove. */
public final class RemoveTest {
    public static void main(String[] args) {
        upperAlone();
        covered();
        emptyDirectories();
        refusals();
        full();
        Runs.end();
    }

    private static void upperAlone() {
        Runs.run("an object of the upper layer alone leaves nothing", "new 1", "put 1 1 1 1 = 1", "put 1 2 3 0 = 1",
            "mount = 1", "remove 1 = 0", "entry 1 1 = 0", "kind 1 = 0", "remove 2 = 0", "entry 1 2 = 0",
            "entries 1 = 0", "whiteouts = 0", "copies = 0", "makeDir 3 = 0", "write 31 1 = 0", "remove 31 = 0",
            "remove 3 = 0", "entries 1 = 0");
        Runs.run("over a lower whiteout nothing is covered", "new 2", "put 0 1 1 1 = 1", "put 1 1 4 0 = 1",
            "put 2 1 1 2 = 1", "mount = 1", "remove 1 = 0", "entry 2 1 = 0", "kind 1 = 0");
        Runs.run("in an opaque directory nothing is covered", "new 1", "put 0 1 2 0 = 1", "put 0 11 1 1 = 1",
            "put 1 1 3 0 = 1", "put 1 11 1 2 = 1", "mount = 1", "remove 11 = 0", "entry 1 11 = 0", "entries 1 = 1");
    }

    private static void covered() {
        Runs.run("a whiteout covers a lower file", "new 1", "put 0 1 1 1 = 1", "mount = 1", "remove 1 = 0",
            "entry 1 1 = 4", "kind 1 = 0", "whiteouts = 1", "copies = 0", "objects = 0", "entryValue 0 1 = 1");
        Runs.run("under an upper entry too", "new 2", "put 0 1 1 1 = 1", "put 2 1 1 2 = 1", "put 0 2 1 3 = 1",
            "put 2 2 2 0 = 1", "put 1 3 2 0 = 1", "put 2 3 3 0 = 1", "mount = 1", "remove 1 = 0", "entry 2 1 = 4",
            "remove 2 = 0", "entry 2 2 = 4", "remove 3 = 0", "entry 2 3 = 4", "objects = 0", "entries 2 = 3");
        Runs.run("the parents are raised for it", "new 1", "put 0 1 2 0 = 1", "put 0 11 2 0 = 1", "put 0 111 2 0 = 1",
            "put 0 1111 1 1 = 1", "mount = 1", "remove 1111 = 0", "entry 1 1 = 2", "entry 1 11 = 2", "entry 1 111 = 2",
            "entry 1 1111 = 4", "copies = 3", "entries 1 = 4", "whiteouts = 1", "size 111 = 0", "objects = 3");
        Runs.run("nothing is raised for what is not covered", "new 2", "put 0 1 2 0 = 1", "put 2 1 2 0 = 1",
            "put 2 11 1 1 = 1", "mount = 1", "remove 11 = 0", "copies = 0", "entries 2 = 1");
    }

    private static void emptyDirectories() {
        Runs.run("whiteouts in a directory do not fill it and go with it", "new 1", "put 0 1 2 0 = 1",
            "put 0 11 1 1 = 1", "put 0 12 2 0 = 1", "put 1 1 2 0 = 1", "put 1 11 4 0 = 1", "put 1 12 4 0 = 1",
            "put 1 13 4 0 = 1", "mount = 1", "size 1 = 0", "remove 1 = 0", "entry 1 1 = 4", "entry 1 11 = 0",
            "entry 1 12 = 0", "entry 1 13 = 0", "entries 1 = 1", "whiteouts = 1");
        Runs.run("a directory whose only lower entries are whiteouts", "new 2", "put 1 1 2 0 = 1", "put 1 11 4 0 = 1",
            "mount = 1", "remove 1 = 0", "entry 2 1 = 4", "makeDir 1 = 0", "entry 2 1 = 3");
        Runs.run("the last of four names", "new 1", "put 0 1 2 0 = 1", "put 0 11 2 0 = 1", "put 0 111 2 0 = 1",
            "put 0 1115 2 0 = 1", "mount = 1", "remove 1115 = 0", "remove 111 = 0", "remove 11 = 0", "remove 1 = 0",
            "entries 1 = 1", "entry 1 1 = 4", "copies = 3");
        Runs.run("entries beside the removed one stay", "new 1", "mount = 1", "makeDir 1 = 0", "makeDir 2 = 0",
            "makeDir 11 = 0", "makeDir 12 = 0", "write 121 3 = 0", "write 21 4 = 0", "remove 11 = 0", "read 121 = 3",
            "read 21 = 4", "objects = 5", "entries 1 = 5");
    }

    private static void refusals() {
        Runs.run("unmounted", "new 1", "put 1 1 1 1 = 1", "remove 1 = UNMOUNTED", "remove 0 = UNMOUNTED",
            "entries 1 = 1");
        Runs.run("refusals in their order", "new 1", "put 0 1 2 0 = 1", "put 0 11 1 1 = 1", "put 0 2 4 0 = 1",
            "mount = 1", "remove 0 = BAD", "remove -1 = BAD", "remove 6 = BAD", "remove 10 = BAD",
            "remove 11111 = BAD", "remove 2 = NONE", "remove 3 = NONE", "remove 111 = NONE", "remove 31 = NONE",
            "remove 1 = NOT_EMPTY", "entries 1 = 0", "whiteouts = 0", "copies = 0", "remove 11 = 0",
            "remove 11 = NONE", "remove 1 = 0", "remove 1 = NONE");
        Runs.run("a directory filled by a lower layer alone", "new 2", "put 0 1 2 0 = 1", "put 0 12 1 1 = 1",
            "put 2 1 2 0 = 1", "mount = 1", "remove 1 = NOT_EMPTY", "entries 2 = 1");
    }

    private static void full() {
        String[] nearlyFull = Runs.rows("new 1", "put 0 5 2 0 = 1", "put 0 51 2 0 = 1", "put 0 511 1 1 = 1",
            "put 0 52 1 2 = 1", "put 0 53 1 1 = 1", "put 1 1 2 0 = 1", "put 1 2 2 0 = 1", "put 1 3 2 0 = 1",
            "put 1 4 2 0 = 1", Runs.fiveFiles(1, 1), Runs.fiveFiles(1, 2), Runs.fiveFiles(1, 3), Runs.fiveFiles(1, 4),
            "put 1 5 2 0 = 1", "put 1 53 1 1 = 1", "put 1 54 1 1 = 1", "mount = 1", "entries 1 = 27");
        Runs.run("a whiteout needs room", Runs.rows(nearlyFull, "remove 511 = 0", "entries 1 = 29", "copies = 1",
            "remove 52 = 0", "entries 1 = 30", "remove 51 = 0", "entries 1 = 29", "write 55 1 = 0", "entries 1 = 30",
            "remove 53 = 0", "entries 1 = 30", "remove 54 = 0", "entries 1 = 29"));
        Runs.run("FULL changes nothing", Runs.rows(nearlyFull, "write 55 1 = 0", "makeDir 551 = NO_PARENT",
            "write 45 1 = 0", "remove 45 = 0", "makeDir 45 = 0", "write 451 1 = 0", "entries 1 = 29",
            "remove 511 = FULL", "read 511 = 1", "copies = 0", "entry 1 51 = 0", "entries 1 = 29", "whiteouts = 0",
            "remove 52 = 0", "entries 1 = 30", "remove 511 = FULL", "remove 51 = NOT_EMPTY", "remove 512 = NONE",
            "remove 7 = BAD", "remove 53 = 0", "entries 1 = 30", "whiteouts = 2"));
    }
}
