/** "An object is used for at most 512 calls after it has been made": the 512th is answered as the first would be. */
public final class LastCallTest {
    public static void main(String[] args) {
        Runs.longRun("looks", rows("new 1", "put 0 1 1 7 = 1", "mount = 1"), rows("read 1 = 7"));
        Runs.longRun("refused puts", rows("new 1"), rows("put 0 11 1 1 = 0"), "put 0 1 1 1 = 1", "entries 0 = 1");
        Runs.longRun("mounted again and again", rows("new 1", "mount = 1"), rows("mount = 0"), "objects = 0");
        Runs.longRun("mounted late", rows("new 1"), rows("kind 0 = UNMOUNTED"), "mount = 1", "kind 0 = 2");
        writes();
        directories();
        whiteouts();
        moves();
        refusals();
        Runs.end();
    }

    private static String[] rows(String... rows) {
        return rows;
    }

    private static void writes() {
        String[] first = {"new 1", "put 0 1 1 1 = 1", "mount = 1"};
        Runs.longRun("a file written again and again", first, rows("write 1 8 = 0", "read 1 = 8", "write 1 9 = 0"),
            "copies = 1", "entries 1 = 1", "write 1 7 = 0", "read 1 = 7");
        String[] values = first;
        for (int value = 0; value < 508; value++) {
            values = Runs.rows(values, "write 1 " + value + " = 0");
        }
        Runs.longRun("as many values as calls", values, rows("copies = 1"), "read 1 = 507");
    }

    private static void directories() {
        Runs.longRun("directories made and removed", rows("new 1", "put 0 1 2 0 = 1", "mount = 1"),
            rows("makeDir 12 = 0", "makeDir 121 = 0", "remove 121 = 0", "remove 12 = 0"), "entries 1 = 1",
            "copies = 1", "whiteouts = 0", "makeDir 12 = 0", "makeDir 121 = 0", "size 12 = 1", "entries 1 = 3");
    }

    private static void whiteouts() {
        Runs.longRun("whiteouts that come and go",
            rows("new 1", "put 0 1 1 5 = 1", "mount = 1", "remove 1 = 0", "whiteouts = 1"),
            rows("makeDir 1 = 0", "remove 1 = 0", "write 1 3 = 0", "remove 1 = 0"), "whiteouts = 1", "makeDir 1 = 0",
            "entry 1 1 = 3", "whiteouts = 0", "copies = 0");
    }

    private static void moves() {
        Runs.longRun("a file moved to and fro", rows("new 1", "put 0 1 1 5 = 1", "mount = 1"),
            rows("rename 1 2 = 0", "rename 2 1 = 0"), "entries 1 = 1", "whiteouts = 0", "rename 1 2 = 0", "read 2 = 5");
        Runs.longRun("a directory with 23 objects moved to and fro",
            Runs.rows("new 1", Runs.filling(0, 24, 1), "mount = 1", "rename 1 2 = 0"),
            rows("rename 2 3 = 0", "rename 3 2 = 0"), "objects = 24", "entries 1 = 25", "copies = 0", "rename 2 1 = 0",
            "entries 1 = 24");
    }

    private static void refusals() {
        Runs.longRun("refused requests", rows("new 1", "put 0 1 2 0 = 1", "put 0 11 1 1 = 1", "mount = 1"),
            rows("makeDir 1 = EXISTS", "write 1 1 = IS_DIRECTORY", "remove 1 = NOT_EMPTY", "rename 1 12 = INSIDE",
                "rename 2 12 = NONE"), "copies = 0", "entries 1 = 0", "write 11 4 = 0", "copies = 2");
        Runs.longRun("requests refused by FULL",
            Runs.rows("new 1", "put 0 5 2 0 = 1", "put 0 51 1 1 = 1", Runs.filling(1, 30, 1), "mount = 1"),
            rows("write 51 9 = FULL", "remove 51 = FULL", "rename 51 52 = FULL", "makeDir 53 = FULL"), "copies = 0",
            "entries 1 = 30", "remove 111 = 0", "remove 112 = 0", "write 51 9 = 0", "copies = 2");
        Runs.longRun("512 calls on an unmounted tree", rows("new 1"),
            rows("makeDir 1 = UNMOUNTED", "write 1 1 = UNMOUNTED", "remove 1 = UNMOUNTED", "rename 1 2 = UNMOUNTED"));
    }
}
