import java.util.ArrayList;
import java.util.List;

/**
 * Terms: "All digits are 1 .. 5, and there are at most four. 0 is the ROOT." Every number about these bounds is given to
 * every call that takes a path; the promises say which of them also refuse the root.
 */
public final class PathBoundsTest {
    private static final int BAD = LayeredTree.BAD;
    private static final int NUMBERS_WITH_ONE_OBJECT = 25;

    public static void main(String[] args) {
        eachDigit();
        numberOfDigits();
        List<Integer> numbers = numbers();
        for (int first = 0; first < numbers.size(); first += NUMBERS_WITH_ONE_OBJECT) {
            List<Integer> some = numbers.subList(first, Math.min(numbers.size(), first + NUMBERS_WITH_ONE_OBJECT));
            putsAtNoPath(some);
            callsOfMountedTree(some);
        }
        Picture.allPaths().forEach(PathBoundsTest::putAtPath);
        Runs.end();
    }

    /** A digit 0, 1, 5 or 6 in each of four positions, where all that lies above is there. */
    private static void eachDigit() {
        String[] above = {"new 1", "put 0 1 2 0 = 1", "put 0 11 2 0 = 1", "put 0 111 2 0 = 1"};
        int[] units = {1, 10, 100, 1000};
        for (int unit : units) {
            int parent = 1111 / unit / 10;
            int one = parent * 10 + 1;
            int five = parent * 10 + 5;
            int six = parent * 10 + 6;
            String[] begin = Runs.rows(above, "put 0 " + five + " 2 0 = 1");
            Runs.run("Terms: digits are 1 .. 5", Runs.rows(begin, "put 0 " + six + " 2 0 = 0", "entry 0 " + one + " = "
                + (unit == 1 ? 0 : 2), "entry 0 " + five + " = 2", "entry 0 " + six + " = BAD", "mount = 1",
                "kind " + five + " = 2", "kind " + six + " = BAD", "makeDir " + six + " = BAD",
                "write " + six + " 1 = BAD", "remove " + six + " = BAD", "rename 5 " + six + " = BAD",
                "rename " + six + " 4 = BAD"));
            if (parent > 0) {
                int zero = parent * 10;
                Runs.run("Terms: no digit is 0", Runs.rows(begin, "put 0 " + zero + " 2 0 = 0",
                    "entry 0 " + zero + " = BAD", "mount = 1", "kind " + zero + " = BAD", "makeDir " + zero + " = BAD",
                    "write " + zero + " 1 = BAD", "remove " + zero + " = BAD", "rename " + zero + " 4 = BAD",
                    "rename 1 " + zero + " = BAD"));
            }
        }
    }

    private static void numberOfDigits() {
        Runs.run("Terms: at most four digits", "new 1", "put 0 1 2 0 = 1", "put 0 11 2 0 = 1", "put 0 111 2 0 = 1",
            "put 0 1111 2 0 = 1", "put 0 11111 2 0 = 0", "entry 0 1111 = 2", "entry 0 11111 = BAD", "mount = 1",
            "kind 111 = 2", "kind 1111 = 2", "kind 11111 = BAD", "size 1111 = 0", "size 11111 = BAD",
            "makeDir 1112 = 0", "makeDir 11111 = BAD", "write 11111 1 = BAD", "remove 11111 = BAD",
            "rename 1112 11111 = BAD", "rename 11111 1113 = BAD", "rename 1112 1113 = 0", "kind 1113 = 2");
    }

    /** All numbers with up to four digits and many with five, and those where narrower numbers or sums would wrap. */
    private static List<Integer> numbers() {
        List<Integer> numbers = new ArrayList<>();
        for (int number = -5600; number <= 60_000; number++) {
            numbers.add(number);
        }
        for (long power = 1L << 16; power <= 1L << 31; power *= 2) {
            for (long near : new long[] {-5555, -1, 0, 1, 11, 1111, 5555}) {
                numbers.add((int) (power + near));
                numbers.add((int) (-power + near));
            }
        }
        for (long ones = 111_111; ones < 1L << 31; ones = ones * 10 + 1) {
            numbers.add((int) ones);
            numbers.add((int) -ones);
        }
        numbers.removeIf(number -> number == 0);
        numbers.add(0);
        return numbers;
    }

    private static void putsAtNoPath(List<Integer> numbers) {
        LayeredTree tree = new LayeredTree(1);
        for (int directory : new int[] {1, 2, 3, 4, 5, 11, 55, 111, 555, 1111, 5555}) {
            Runs.due("put of " + directory, tree.put(0, directory, 2, 0) ? 1 : 0, 1);
        }
        for (int number : numbers) {
            if (!Picture.isObjectPath(number)) {
                Runs.due("put at " + number, tree.put(0, number, 1, 1) ? 1 : 0, 0);
            }
        }
        Runs.due("entries after puts at no paths", tree.entries(0), 11);
    }

    private static void putAtPath(int path) {
        LayeredTree tree = new LayeredTree(1);
        for (int above = 1000; above > 1; above /= 10) {
            if (path / above > 0) {
                tree.put(0, path / above, 2, 0);
            }
        }
        Runs.due("put at " + path, tree.put(0, path, 1, 7) ? 1 : 0, 1);
        Runs.due("entry at " + path, tree.entry(0, path), 1);
        tree.mount();
        Runs.due("read at " + path, tree.read(path), 7);
        Runs.due("objects with " + path, tree.objects(), Integer.toString(path).length());
    }

    private static void callsOfMountedTree(List<Integer> numbers) {
        LayeredTree tree = new LayeredTree(1);
        tree.put(0, 1, 1, 1);
        tree.mount();
        for (int number : numbers) {
            boolean isObjectPath = Picture.isObjectPath(number);
            boolean isPath = isObjectPath || number == 0;
            badUnless(isPath, "kind", number, tree.kind(number));
            badUnless(isPath, "read", number, tree.read(number));
            badUnless(isPath, "size", number, tree.size(number));
            badUnless(isPath, "name", number, tree.name(number, 0));
            badUnless(isObjectPath, "origin", number, tree.origin(number));
            badUnless(isObjectPath, "entry", number, tree.entry(0, number));
            badUnless(isObjectPath, "entryValue", number, tree.entryValue(1, number));
            badUnless(isObjectPath, "remove", number, tree.remove(number));
            badUnless(isObjectPath, "write", number, tree.write(number, 1));
            badUnless(isObjectPath, "makeDir", number, tree.makeDir(number));
            badUnless(isObjectPath, "rename from", number, tree.rename(number, 2));
            tree.write(1, 1);
            badUnless(isObjectPath, "rename to", number, tree.rename(1, number));
        }
    }

    private static void badUnless(boolean right, String call, int number, int answer) {
        Runs.due(call + " " + number + " is BAD", answer == BAD ? 1 : 0, right ? 0 : 1);
    }
}
