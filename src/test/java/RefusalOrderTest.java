/**
 * Terms: "A request (makeDir, write, remove, rename) is answered by 0, or by the first refusal that holds, in the order
 * in which they are said there, and then changes nothing." For every two refusals that can hold at once the one that is
 * said first is due; that nothing changes is looked at after each refused row (Runs).
 */
public final class RefusalOrderTest {
    /** 1 is a directory with objects down to four names, 2 a file, 3 an empty directory, 4 one with a file. */
    private static final String[] LOWER = {"new 1", "put 0 1 2 0 = 1", "put 0 11 1 1 = 1", "put 0 12 2 0 = 1",
        "put 0 121 2 0 = 1", "put 0 1211 1 2 = 1", "put 0 2 1 5 = 1", "put 0 3 2 0 = 1", "put 0 4 2 0 = 1",
        "put 0 41 1 3 = 1", "put 0 42 2 0 = 1"};
    private static final String[] FULL_UPPER = Runs.filling(1, 30, 5);
    private static final String[] ROOMY = Runs.rows(LOWER, "mount = 1");
    private static final String[] FULL = Runs.rows(LOWER, FULL_UPPER, "mount = 1");
    private static final String[] UNMOUNTED = LOWER;
    private static final String[] UNMOUNTED_AND_FULL = Runs.rows(LOWER, FULL_UPPER);

    public static void main(String[] args) {
        makeDir();
        write();
        remove();
        renameUnmounted();
        renameBad();
        renameNone();
        renameSamePath();
        renameInside();
        renameOtherRefusals();
        Runs.end();
    }

    /** Cases written as "what they show: the row", each in a run of its own. */
    private static void each(String[] begin, String promise, String... cases) {
        for (String one : cases) {
            String[] titleAndRow = one.split(": ");
            Runs.run(promise + ", " + titleAndRow[0], Runs.rows(begin, titleAndRow[1]));
        }
    }

    private static void makeDir() {
        each(UNMOUNTED, "Promise 10",
            "UNMOUNTED before BAD: makeDir 0 = UNMOUNTED",
            "UNMOUNTED before BAD: makeDir 6 = UNMOUNTED",
            "UNMOUNTED before NO_PARENT: makeDir 21 = UNMOUNTED",
            "UNMOUNTED before EXISTS: makeDir 3 = UNMOUNTED",
            "UNMOUNTED alone: makeDir 31 = UNMOUNTED");
        each(UNMOUNTED_AND_FULL, "Promise 10",
            "UNMOUNTED before FULL: makeDir 31 = UNMOUNTED");
        each(ROOMY, "Promise 10",
            "BAD before NO_PARENT: makeDir 26 = BAD",
            "BAD before NO_PARENT: makeDir 12111 = BAD",
            "BAD before EXISTS: makeDir 0 = BAD",
            "BAD alone: makeDir 36 = BAD",
            "NO_PARENT alone, nothing being the parent: makeDir 131 = NO_PARENT",
            "NO_PARENT alone, a file being the parent: makeDir 21 = NO_PARENT",
            "EXISTS alone, a file: makeDir 2 = EXISTS",
            "EXISTS alone, a directory: makeDir 3 = EXISTS",
            "no refusal: makeDir 31 = 0");
        each(FULL, "Promise 10",
            "BAD before FULL: makeDir 36 = BAD",
            "NO_PARENT before FULL: makeDir 21 = NO_PARENT",
            "EXISTS before FULL: makeDir 3 = EXISTS",
            "EXISTS before FULL: makeDir 1211 = EXISTS",
            "FULL alone: makeDir 31 = FULL");
    }

    private static void write() {
        each(UNMOUNTED, "Promise 11",
            "UNMOUNTED before BAD: write 0 1 = UNMOUNTED",
            "UNMOUNTED before BAD: write 6 1 = UNMOUNTED",
            "UNMOUNTED before BAD: write 2 -1 = UNMOUNTED",
            "UNMOUNTED before NO_PARENT: write 21 1 = UNMOUNTED",
            "UNMOUNTED before IS_DIRECTORY: write 3 1 = UNMOUNTED",
            "UNMOUNTED alone: write 2 1 = UNMOUNTED");
        each(UNMOUNTED_AND_FULL, "Promise 11",
            "UNMOUNTED before FULL: write 31 1 = UNMOUNTED");
        each(ROOMY, "Promise 11",
            "BAD alone, by the value: write 2 -1 = BAD",
            "BAD alone, by the least value: write 31 " + Integer.MIN_VALUE + " = BAD",
            "BAD by the path and the value: write 6 -1 = BAD",
            "BAD before NO_PARENT: write 26 1 = BAD",
            "BAD before NO_PARENT: write 21 -1 = BAD",
            "BAD before IS_DIRECTORY: write 0 1 = BAD",
            "BAD before IS_DIRECTORY: write 3 -1 = BAD",
            "NO_PARENT alone, nothing being the parent: write 131 1 = NO_PARENT",
            "NO_PARENT alone, a file being the parent: write 111 1 = NO_PARENT",
            "IS_DIRECTORY alone: write 3 1 = IS_DIRECTORY",
            "no refusal, also where a file is: write 2 0 = 0");
        each(FULL, "Promise 11",
            "BAD before FULL: write 6 1 = BAD",
            "BAD before FULL: write 31 -1 = BAD",
            "NO_PARENT before FULL: write 21 1 = NO_PARENT",
            "IS_DIRECTORY before FULL: write 3 1 = IS_DIRECTORY",
            "FULL alone, where a lower file is: write 2 1 = FULL",
            "FULL alone, where nothing is: write 31 0 = FULL",
            "no refusal, an upper file when it is full: write 511 9 = 0");
    }

    private static void remove() {
        each(UNMOUNTED, "Promise 12",
            "UNMOUNTED before BAD: remove 0 = UNMOUNTED",
            "UNMOUNTED before BAD: remove 6 = UNMOUNTED",
            "UNMOUNTED before NONE: remove 13 = UNMOUNTED",
            "UNMOUNTED before NOT_EMPTY: remove 4 = UNMOUNTED",
            "UNMOUNTED alone: remove 2 = UNMOUNTED");
        each(UNMOUNTED_AND_FULL, "Promise 12",
            "UNMOUNTED before FULL: remove 2 = UNMOUNTED");
        each(ROOMY, "Promise 12",
            "BAD before NONE: remove 6 = BAD",
            "BAD before NONE: remove 12111 = BAD",
            "BAD before NOT_EMPTY: remove 0 = BAD",
            "NONE alone: remove 13 = NONE",
            "NONE alone, a file being the parent: remove 21 = NONE",
            "NONE alone, without a parent: remove 1311 = NONE",
            "NOT_EMPTY alone: remove 4 = NOT_EMPTY",
            "NOT_EMPTY alone, by one object: remove 121 = NOT_EMPTY",
            "no refusal, a file: remove 2 = 0",
            "no refusal, an empty directory: remove 3 = 0");
        each(new String[] {"new 1", "mount = 1"}, "Promise 12",
            "BAD of an empty root: remove 0 = BAD");
        each(FULL, "Promise 12",
            "BAD before FULL: remove 26 = BAD",
            "NONE before FULL: remove 13 = NONE",
            "NOT_EMPTY before FULL: remove 4 = NOT_EMPTY",
            "FULL alone, a file: remove 2 = FULL",
            "FULL alone, an empty directory: remove 3 = FULL");
    }

    private static void renameUnmounted() {
        each(UNMOUNTED, "Promise 13",
            "UNMOUNTED before BAD: rename 0 1 = UNMOUNTED",
            "UNMOUNTED before BAD: rename 1 6 = UNMOUNTED",
            "UNMOUNTED before BAD: rename 6 6 = UNMOUNTED",
            "UNMOUNTED before NONE: rename 13 5 = UNMOUNTED",
            "UNMOUNTED before both being the same: rename 3 3 = UNMOUNTED",
            "UNMOUNTED before INSIDE: rename 4 43 = UNMOUNTED",
            "UNMOUNTED before NO_PARENT: rename 3 21 = UNMOUNTED",
            "UNMOUNTED before IS_DIRECTORY: rename 2 3 = UNMOUNTED",
            "UNMOUNTED before IS_FILE: rename 3 2 = UNMOUNTED",
            "UNMOUNTED before NOT_EMPTY: rename 3 4 = UNMOUNTED",
            "UNMOUNTED before DEEP: rename 1 31 = UNMOUNTED",
            "UNMOUNTED alone: rename 3 43 = UNMOUNTED");
        each(UNMOUNTED_AND_FULL, "Promise 13",
            "UNMOUNTED before FULL: rename 2 31 = UNMOUNTED");
    }

    private static void renameBad() {
        each(ROOMY, "Promise 13",
            "BAD alone, by from: rename 0 31 = BAD",
            "BAD alone, by to: rename 2 36 = BAD",
            "BAD by both: rename 6 16 = BAD",
            "BAD before NONE: rename 13 6 = BAD",
            "BAD before NONE: rename 6 3 = BAD",
            "BAD before both being the same: rename 0 0 = BAD",
            "BAD before both being the same: rename 6 6 = BAD",
            "BAD before INSIDE: rename 4 46 = BAD",
            "BAD before INSIDE: rename 0 43 = BAD",
            "BAD before NO_PARENT: rename 4 26 = BAD",
            "BAD before NO_PARENT: rename 0 21 = BAD",
            "BAD before IS_DIRECTORY: rename 2 0 = BAD",
            "BAD before IS_FILE: rename 0 2 = BAD",
            "BAD before NOT_EMPTY: rename 3 0 = BAD",
            "BAD before NOT_EMPTY: rename 0 4 = BAD",
            "BAD before DEEP: rename 4 12112 = BAD");
        each(FULL, "Promise 13",
            "BAD before FULL: rename 2 36 = BAD");
    }

    private static void renameNone() {
        each(ROOMY, "Promise 13",
            "NONE alone: rename 43 31 = NONE",
            "NONE alone, a file being its parent: rename 21 31 = NONE",
            "NONE before both being the same: rename 43 43 = NONE",
            "NONE before INSIDE: rename 43 431 = NONE",
            "NONE before NO_PARENT: rename 43 21 = NONE",
            "NONE where a file is at to: rename 43 2 = NONE",
            "NONE where a directory is at to: rename 43 3 = NONE",
            "NONE before NOT_EMPTY: rename 43 4 = NONE");
        each(FULL, "Promise 13",
            "NONE before FULL: rename 43 31 = NONE");
    }

    private static void renameSamePath() {
        each(ROOMY, "Promise 13",
            "both the same, a file: rename 2 2 = 0 unchanged",
            "both the same, an empty directory: rename 3 3 = 0 unchanged",
            "both the same before NOT_EMPTY: rename 4 4 = 0 unchanged",
            "both the same, four names: rename 1211 1211 = 0 unchanged",
            "both the same, in a lower directory: rename 12 12 = 0 unchanged");
        each(FULL, "Promise 13",
            "both the same before FULL: rename 2 2 = 0 unchanged",
            "both the same before FULL: rename 121 121 = 0 unchanged",
            "both the same, of the upper layer: rename 5 5 = 0 unchanged",
            "both the same, an upper file: rename 511 511 = 0 unchanged");
    }

    private static void renameInside() {
        each(ROOMY, "Promise 13",
            "INSIDE alone, directly below: rename 4 43 = INSIDE",
            "INSIDE alone, further below: rename 4 421 = INSIDE",
            "INSIDE before NO_PARENT: rename 4 4333 = INSIDE",
            "INSIDE before NO_PARENT, a file at the parent: rename 4 411 = INSIDE",
            "INSIDE before NO_PARENT, from itself being a file: rename 2 21 = INSIDE",
            "INSIDE before IS_FILE: rename 4 41 = INSIDE",
            "INSIDE before NOT_EMPTY: rename 1 12 = INSIDE",
            "INSIDE before DEEP: rename 1 13 = INSIDE",
            "to above from is not below it: rename 42 4 = NOT_EMPTY",
            "beside from is not below it: rename 42 43 = 0",
            "the same last digits are not below it: rename 4 34 = 0");
        each(FULL, "Promise 13",
            "INSIDE before FULL: rename 3 31 = INSIDE");
    }

    private static void renameOtherRefusals() {
        each(ROOMY, "Promise 13",
            "NO_PARENT alone, nothing being the parent: rename 2 431 = NO_PARENT",
            "NO_PARENT alone, a file being the parent: rename 4 21 = NO_PARENT",
            "NO_PARENT before DEEP: rename 1 21 = NO_PARENT",
            "IS_DIRECTORY alone: rename 2 3 = IS_DIRECTORY",
            "IS_DIRECTORY before NOT_EMPTY: rename 2 4 = IS_DIRECTORY",
            "IS_DIRECTORY before NOT_EMPTY, to above from: rename 41 4 = IS_DIRECTORY",
            "IS_FILE alone: rename 3 2 = IS_FILE",
            "IS_FILE before DEEP: rename 1 41 = IS_FILE",
            "NOT_EMPTY alone: rename 3 4 = NOT_EMPTY",
            "DEEP alone, by one name: rename 1 31 = DEEP",
            "DEEP alone, onto an empty directory: rename 1 42 = DEEP",
            "DEEP alone, by what is directly in it: rename 4 1212 = DEEP",
            "just not DEEP: rename 12 31 = 0",
            "just not DEEP: rename 4 122 = 0",
            "an empty directory at four names: rename 3 1212 = 0",
            "no refusal, a file: rename 2 31 = 0",
            "no refusal, a directory: rename 4 31 = 0",
            "no refusal, onto an empty directory: rename 4 3 = 0");
        each(FULL, "Promise 13",
            "NO_PARENT before FULL: rename 4 21 = NO_PARENT",
            "IS_DIRECTORY before FULL: rename 2 3 = IS_DIRECTORY",
            "IS_FILE before FULL: rename 3 2 = IS_FILE",
            "NOT_EMPTY before FULL: rename 3 4 = NOT_EMPTY",
            "DEEP before FULL: rename 1 31 = DEEP",
            "FULL alone, a file: rename 2 31 = FULL",
            "FULL alone, a file onto a file: rename 2 41 = FULL",
            "FULL alone, a directory: rename 4 31 = FULL",
            "FULL alone, onto an empty directory: rename 4 3 = FULL");
        each(Runs.rows(ROOMY, "makeDir 421 = 0"), "Promise 13",
            "NOT_EMPTY before DEEP: rename 4 121 = NOT_EMPTY",
            "NOT_EMPTY before DEEP: rename 1 42 = NOT_EMPTY");
    }
}
