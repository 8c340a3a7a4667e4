/**
 * Terms: "FULL always comes last: it holds when the upper layer would have more than 30 entries after the request." Each
 * request is made where the upper layer would come to have 29, 30 and 31 entries.
 */
public final class FullTest {
    private static final int BOUND = 30;
    /** What the requests are about: nothing at 3, a file at 4, and directories of all depths from 5 on. */
    private static final String[] LOWER = {"put 0 4 1 4 = 1", "put 0 5 2 0 = 1", "put 0 51 2 0 = 1", "put 0 511 2 0 = 1",
        "put 0 5111 1 1 = 1", "put 0 52 1 2 = 1"};
    private static final String[] NO_ENTRIES = {};

    public static void main(String[] args) {
        makeDir();
        write();
        remove();
        rename();
        onlyTheEndCounts();
        fullIsNotForever();
        lowerEntriesDoNotCount();
        Runs.end();
    }

    private static void makeDir() {
        grows("makeDir 3", 1);
        grows("makeDir 53", 2);
        grows("makeDir 512", 3);
        grows("makeDir 5112", 4);
        String[] emptied = {"put 1 4 4 0 = 1", "put 1 5 2 0 = 1", "put 1 52 4 0 = 1"};
        grows(emptied, "makeDir 4", 0);
        grows(emptied, "makeDir 52", 0);
        grows(emptied, "makeDir 53", 1);
        grows(emptied, "makeDir 512", 2);
    }

    private static void write() {
        grows("write 3 9", 1);
        grows("write 4 9", 1);
        grows("write 52 9", 2);
        grows("write 53 9", 2);
        grows("write 512 9", 3);
        grows("write 5111 9", 4);
        grows("write 5112 9", 4);
        String[] some = {"put 1 3 1 3 = 1", "put 1 4 4 0 = 1", "put 1 5 2 0 = 1", "put 1 52 1 5 = 1",
            "put 1 53 4 0 = 1"};
        grows(some, "write 3 9", 0);
        grows(some, "write 4 9", 0);
        grows(some, "write 52 9", 0);
        grows(some, "write 53 9", 0);
        grows(some, "write 54 9", 1);
        grows(some, "write 5111 9", 3);
    }

    private static void remove() {
        grows("remove 4", 1);
        grows("remove 52", 2);
        grows("remove 5111", 4);
        String[] some = {"put 1 3 2 0 = 1", "put 1 31 4 0 = 1", "put 1 32 4 0 = 1", "put 1 4 1 9 = 1", "put 1 5 2 0 = 1",
            "put 1 53 1 1 = 1", "put 1 51 2 0 = 1", "put 1 511 2 0 = 1", "put 1 5111 4 0 = 1", "put 1 5112 4 0 = 1"};
        grows(some, "remove 3", -3);
        grows(some, "remove 4", 0);
        grows(some, "remove 53", -1);
        grows(some, "remove 52", 1);
        grows(some, "remove 511", -2);
    }

    private static void rename() {
        grows("rename 4 3", 2);
        grows("rename 4 53", 3);
        grows("rename 4 52", 3);
        grows("rename 52 53", 3);
        grows("rename 52 3", 3);
        grows("rename 5111 3", 5);
        grows("rename 511 3", 5);
        grows("rename 51 53", 5);
        grows("rename 5 3", 6);
        String[] files = {"put 1 3 1 1 = 1", "put 1 4 1 2 = 1", "put 1 2 4 0 = 1"};
        grows(files, "rename 3 4", -1);
        grows(files, "rename 4 3", 0);
        grows(files, "rename 3 2", -1);
        grows(files, "rename 4 2", 0);
        grows(files, "rename 3 53", 1);
        String[] directories = {"put 1 2 2 0 = 1", "put 1 21 4 0 = 1", "put 1 22 4 0 = 1", "put 1 3 2 0 = 1",
            "put 1 31 2 0 = 1", "put 1 311 1 1 = 1", "put 1 32 1 1 = 1", "put 1 33 4 0 = 1"};
        grows(directories, "rename 3 2", -4);
        grows(directories, "rename 2 33", -3);
        grows(directories, "rename 31 2", -3);
        grows(directories, "rename 31 34", 0);
        grows(directories, "rename 31 33", -1);
        grows(directories, "rename 5 2", 3);
    }

    /** The objects of a directory are made at the new path before the old one goes. */
    private static void onlyTheEndCounts() {
        grows(Runs.rows("put 1 3 2 0 = 1", Runs.fiveFiles(1, 3)), "rename 3 2", 0);
        grows(Runs.rows("put 1 3 2 0 = 1", "put 1 31 2 0 = 1", Runs.fiveFiles(1, 31)), "rename 31 2", 0);
        grows(Runs.rows("put 1 3 2 0 = 1", "put 1 31 2 0 = 1", Runs.fiveFiles(1, 31)), "rename 3 53", 1);
    }

    private static void fullIsNotForever() {
        Runs.run("Terms: FULL holds for the request alone", Runs.rows("new 1", LOWER, Runs.filling(1, BOUND, 1),
            "mount = 1", "write 3 9 = FULL", "write 4 9 = FULL", "remove 52 = FULL", "makeDir 53 = FULL",
            "rename 4 3 = FULL", "remove 154 = 0", "entries 1 = 29", "rename 4 3 = FULL", "remove 52 = FULL",
            "write 4 9 = 0", "entries 1 = 30", "write 3 9 = FULL", "write 4 8 = 0", "remove 153 = 0", "write 3 9 = 0",
            "entries 1 = 30", "remove 3 = 0", "remove 152 = 0", "makeDir 53 = 0", "entries 1 = 30", "copies = 2"));
    }

    private static void lowerEntriesDoNotCount() {
        Runs.run("Terms: 60 lower entries leave the upper layer its 30", Runs.rows("new 1", Runs.filling(0, 60, 1, 2),
            Runs.filling(1, 28, 5), "mount = 1", "write 3 1 = 0", "write 4 1 = 0", "entries 1 = 30",
            "write 111 1 = FULL", "remove 111 = FULL", "entries 0 = 60", "entries 1 = 30"));
    }

    private static void grows(String request, int growth) {
        grows(NO_ENTRIES, request, growth);
    }

    private static void grows(String[] upperEntries, String request, int growth) {
        int mostBefore = BOUND - Math.max(0, growth);
        answers(upperEntries, request, mostBefore - 1, "0", mostBefore - 1 + growth);
        answers(upperEntries, request, mostBefore, "0", mostBefore + growth);
        if (mostBefore < BOUND) {
            answers(upperEntries, request, mostBefore + 1, "FULL", mostBefore + 1);
        }
    }

    private static void answers(String[] upperEntries, String request, int before, String due, int after) {
        Runs.run("Terms: FULL, from " + before + " entries", Runs.rows("new 1", LOWER, upperEntries,
            Runs.filling(1, before - upperEntries.length, 1), "mount = 1", "entries 1 = " + before,
            request + " = " + due, "entries 1 = " + after));
    }
}
