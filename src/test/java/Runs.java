import java.util.ArrayList;
import java.util.Arrays;
import java.util.List;
import java.util.stream.Stream;

/**
 * Runs written as rows: "new 2" makes an object and comes first, "put 0 12 1 7 = 1" is a call with the answer that is
 * due. An answer may be the name of a constant. After each call that is due to be refused, and after each row that ends
 * in "unchanged", the object must look as before.
 */
final class Runs {
    private static int wrong = 0;

    private final String title;
    private final int lower;
    private final LayeredTree tree;
    private final List<Call> calls = new ArrayList<>();
    /** What the calls so far have left, or null when it has not been looked at. */
    private Picture picture = null;
    /** Whether something can be looked at after the calls of this run. */
    private boolean hasCallsLeft = true;

    private Runs(String title, String newRow) {
        this.title = title;
        this.lower = Integer.parseInt(newRow.substring("new ".length()));
        this.tree = new LayeredTree(lower);
    }

    static void run(String title, String... rows) {
        Runs run = new Runs(title, rows[0]);
        for (int i = 1; i < rows.length; i++) {
            run.row(rows[i]);
        }
    }

    /** As many calls as an object is good for: a group of rows again and again, then the last rows. */
    static void longRun(String title, String[] first, String[] again, String... last) {
        List<String> rows = new ArrayList<>(Arrays.asList(first));
        while (rows.size() + again.length + last.length <= Picture.MOST_CALLS + 1) {
            rows.addAll(Arrays.asList(again));
        }
        while (rows.size() + last.length <= Picture.MOST_CALLS) {
            rows.add("entries -1 = BAD");
        }
        rows.addAll(Arrays.asList(last));
        Runs run = new Runs(title, rows.remove(0));
        run.hasCallsLeft = false;
        rows.forEach(run::row);
        due(title + ": number of calls", run.calls.size(), Picture.MOST_CALLS);
    }

    static void due(String what, long got, long want) {
        if (got != want) {
            wrong++;
            System.out.println(what + " - answered " + got + ", due is " + want);
        }
    }

    static boolean allAsDue() {
        return wrong == 0;
    }

    /** Joins groups of rows, so that runs can share a beginning. */
    static String[] rows(Object... groups) {
        return Arrays.stream(groups)
            .flatMap(group -> group instanceof String[] many ? Arrays.stream(many) : Stream.of((String) group))
            .toArray(String[]::new);
    }

    /** Files with value 1 at all paths with this parent, as put rows into a layer. */
    static String[] fiveFiles(int layer, int parent) {
        String[] rows = new String[5];
        for (int name = 1; name <= 5; name++) {
            rows[name - 1] = "put " + layer + " " + (parent * 10 + name) + " 1 1 = 1";
        }
        return rows;
    }

    /** So many entries as put rows into a layer: first the tops, then directories in these, then files in those. */
    static String[] filling(int layer, int count, int... tops) {
        List<Integer> paths = new ArrayList<>();
        Arrays.stream(tops).forEach(paths::add);
        for (int i = 0; paths.size() < count; i++) {
            for (int name = 1; name <= 5; name++) {
                paths.add(paths.get(i) * 10 + name);
            }
        }
        return paths.stream().limit(count)
            .map(path -> "put " + layer + " " + path + (path < 100 ? " 2 0 = 1" : " 1 1 = 1"))
            .toArray(String[]::new);
    }

    static void end() {
        System.out.println(allAsDue() ? "all answers are as due" : wrong + " answers are not as due");
        if (!allAsDue()) {
            System.exit(1);
        }
    }

    private void row(String row) {
        String[] sides = row.split(" = ");
        String[] words = sides[1].split(" ");
        Call call = Call.of(sides[0]);
        int due = number(words[0]);
        boolean unchanged = hasCallsLeft && (words.length > 1 || call.isRefusedBy(due));
        Picture before = unchanged ? look() : null;
        int got = call.on(tree);
        calls.add(call);
        picture = null;
        due(title + ": " + row, got, due);
        if (unchanged) {
            String difference = look().differenceFrom(before);
            due(title + ": " + row + " (changes: " + difference + ")", difference.isEmpty() ? 0 : 1, 0);
        }
    }

    private Picture look() {
        if (picture == null) {
            picture = new Picture(lower, calls);
        }
        return picture;
    }

    private static int number(String word) {
        if (!Character.isLetter(word.charAt(0))) {
            return Integer.parseInt(word);
        }
        try {
            return LayeredTree.class.getField(word).getInt(null);
        } catch (ReflectiveOperationException missing) {
            throw new IllegalArgumentException("no such constant: " + word, missing);
        }
    }
}
