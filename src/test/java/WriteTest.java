/** Promise 11: write. */
public final class WriteTest {
    private static final int MOST = Integer.MAX_VALUE;

    public static void main(String[] args) {
        plain();
        overFiles();
        raising();
        refusals();
        full();
        Runs.end();
    }

    private static void plain() {
        Runs.run("a new file", "new 1", "mount = 1", "write 1 7 = 0", "read 1 = 7", "kind 1 = 1", "entry 1 1 = 1",
            "entryValue 1 1 = 7", "origin 1 = 1", "objects = 1", "copies = 0", "write 2 0 = 0", "read 2 = 0",
            "write 3 " + MOST + " = 0", "read 3 = " + MOST, "entries 1 = 3", "entries 0 = 0");
        Runs.run("over a whiteout", "new 1", "put 0 1 2 0 = 1", "put 0 11 1 3 = 1", "mount = 1", "remove 11 = 0",
            "remove 1 = 0", "copies = 1", "write 1 5 = 0", "entry 1 1 = 1", "read 1 = 5", "whiteouts = 0",
            "entries 1 = 1", "kind 11 = 0", "copies = 1");
    }

    private static void overFiles() {
        Runs.run("over a lower file", "new 2", "put 0 1 1 3 = 1", "put 1 2 1 4 = 1", "mount = 1", "write 1 5 = 0",
            "read 1 = 5", "origin 1 = 2", "copies = 1", "entryValue 0 1 = 3", "write 2 6 = 0", "copies = 2",
            "write 1 7 = 0", "read 1 = 7", "copies = 2", "entries 2 = 2", "objects = 2");
        Runs.run("over an upper file", "new 1", "put 0 1 1 3 = 1", "put 1 1 1 4 = 1", "mount = 1", "write 1 5 = 0",
            "read 1 = 5", "copies = 0", "entries 1 = 1");
        Runs.run("the same value is written all the same", "new 1", "put 0 1 1 3 = 1", "mount = 1", "write 1 3 = 0",
            "copies = 1", "entry 1 1 = 1", "origin 1 = 1");
    }

    private static void raising() {
        Runs.run("the parents are raised", "new 2", "put 0 1 2 0 = 1", "put 0 11 2 0 = 1", "put 0 111 2 0 = 1",
            "put 0 1111 1 1 = 1", "put 1 1 2 0 = 1", "mount = 1", "write 1111 2 = 0", "copies = 4", "entries 2 = 4",
            "entry 2 1 = 2", "entry 2 11 = 2", "entry 2 111 = 2", "entry 2 1111 = 1", "write 1112 3 = 0",
            "copies = 4", "size 111 = 2", "write 12 4 = 0", "copies = 4", "size 1 = 2", "entries 2 = 6");
    }

    private static void refusals() {
        Runs.run("unmounted", "new 1", "write 1 1 = UNMOUNTED", "write 0 -1 = UNMOUNTED", "entries 1 = 0");
        Runs.run("refusals in their order", "new 1", "put 0 1 1 1 = 1", "put 0 2 2 0 = 1", "mount = 1",
            "write 0 1 = BAD", "write -1 1 = BAD", "write 6 1 = BAD", "write 10 1 = BAD", "write 11111 1 = BAD",
            "write 1 -1 = BAD", "write 11 -1 = BAD", "write 2 -1 = BAD", "write 1 " + Integer.MIN_VALUE + " = BAD",
            "write 11 1 = NO_PARENT", "write 31 1 = NO_PARENT", "write 3111 1 = NO_PARENT", "write 2 1 = IS_DIRECTORY",
            "entries 1 = 0", "copies = 0", "read 1 = 1", "makeDir 3 = 0", "write 3 1 = IS_DIRECTORY", "write 31 1 = 0",
            "write 311 1 = NO_PARENT");
    }

    private static void full() {
        String[] nearlyFull = Runs.rows("new 1", "put 0 5 2 0 = 1", "put 0 51 2 0 = 1", "put 0 511 1 1 = 1",
            "put 0 52 1 2 = 1", "put 1 1 2 0 = 1", "put 1 2 2 0 = 1", "put 1 3 2 0 = 1", "put 1 4 2 0 = 1",
            Runs.fiveFiles(1, 1), Runs.fiveFiles(1, 2), Runs.fiveFiles(1, 3), Runs.fiveFiles(1, 4),
            "put 1 5 2 0 = 1", "put 1 53 1 1 = 1", "put 1 54 4 0 = 1", "mount = 1", "entries 1 = 27");
        Runs.run("30 entries are not too many", Runs.rows(nearlyFull, "write 511 9 = 0", "entries 1 = 29", "copies = 2",
            "write 52 9 = 0", "entries 1 = 30", "copies = 3", "write 512 9 = FULL", "write 55 9 = FULL", "copies = 3",
            "write 53 9 = 0", "write 54 9 = 0", "entries 1 = 30", "whiteouts = 0", "write 54 8 = 0", "read 54 = 8"));
        Runs.run("a refused copy-up is not counted", Runs.rows(nearlyFull, "makeDir 55 = 0", "makeDir 551 = 0",
            "entries 1 = 29", "write 511 9 = FULL", "copies = 0", "read 511 = 1", "origin 51 = 0", "entry 1 51 = 0",
            "entries 1 = 29", "write 52 3 = 0", "copies = 1", "entries 1 = 30", "write 6 9 = BAD",
            "write 5111 9 = NO_PARENT", "write 51 9 = IS_DIRECTORY"));
    }
}
