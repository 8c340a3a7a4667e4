/** Promise 18: copies. */
public final class CopiesTest {
    public static void main(String[] args) {
        Runs.run("before mounting and after", "new 1", "copies = 0", "put 0 1 2 0 = 1", "put 1 1 2 0 = 1", "copies = 0",
            "mount = 1", "copies = 0");
        Runs.run("a file of a lower origin", "new 3", "put 0 1 1 1 = 1", "put 1 2 1 1 = 1", "put 2 3 1 1 = 1",
            "put 3 4 1 1 = 1", "put 3 5 4 0 = 1", "put 2 5 1 1 = 1", "mount = 1", "write 1 2 = 0", "copies = 1",
            "write 2 2 = 0", "copies = 2", "write 3 2 = 0", "copies = 3", "write 4 2 = 0", "copies = 3",
            "write 5 2 = 0", "copies = 3");
        Runs.run("each directory put by raising", "new 1", "put 0 1 2 0 = 1", "put 0 11 2 0 = 1", "put 0 12 2 0 = 1",
            "put 0 121 1 1 = 1", "put 0 2 2 0 = 1", "put 0 21 2 0 = 1", "put 0 22 1 1 = 1", "mount = 1",
            "write 111 1 = 0", "copies = 2", "makeDir 112 = 0", "copies = 2", "remove 121 = 0", "copies = 3",
            "rename 22 13 = 0", "copies = 4", "rename 13 211 = 0", "copies = 5");
        Runs.run("rename and makeDir copy no files", "new 1", "put 0 1 2 0 = 1", "put 0 11 1 1 = 1", "put 0 2 1 1 = 1",
            "put 0 3 1 1 = 1", "mount = 1", "rename 1 4 = 0", "copies = 0", "rename 2 3 = 0", "copies = 0",
            "makeDir 1 = 0", "copies = 0");
        Runs.run("what is in the upper layer already is not counted again", "new 1", "put 0 1 2 0 = 1", "put 0 11 1 1 = 1",
            "put 0 2 2 0 = 1", "mount = 1", "write 21 1 = 0", "copies = 1", "remove 21 = 0", "write 22 1 = 0",
            "copies = 1", "write 11 1 = 0", "copies = 3", "remove 11 = 0", "write 11 1 = 0", "copies = 3");
        Runs.run("refused requests", "new 1", "put 0 1 2 0 = 1", "put 0 11 2 0 = 1", "put 0 111 1 1 = 1", "mount = 1",
            "write 11 1 = IS_DIRECTORY", "write 112 -1 = BAD", "makeDir 111 = EXISTS", "remove 11 = NOT_EMPTY",
            "rename 11 1111 = INSIDE", "rename 111 11 = IS_DIRECTORY", "copies = 0");
        Runs.end();
    }
}
