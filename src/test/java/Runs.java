import java.util.Arrays;

/**
 * Runs written as rows: "new 2" makes an object, "put 0 12 1 7 = 1" is a call with the answer that is due.
 * A boolean counts 1 or 0; an answer may be the name of a constant.
 */
final class Runs {
    private static int wrong = 0;

    private Runs() {}

    static void run(String title, String... rows) {
        LayeredTree tree = null;
        for (String row : rows) {
            String[] words = row.trim().split("[ =]+");
            if (words[0].equals("new")) {
                tree = new LayeredTree(Integer.parseInt(words[1]));
                continue;
            }
            int[] arguments = new int[words.length - 2];
            for (int i = 0; i < arguments.length; i++) {
                arguments[i] = Integer.parseInt(words[i + 1]);
            }
            due(title + ": " + row, call(tree, words[0], arguments), number(words[words.length - 1]));
        }
    }

    static void due(String what, long got, long want) {
        if (got != want) {
            wrong++;
            System.out.println(what + " - answered " + got + ", due is " + want);
        }
    }

    static int call(LayeredTree tree, String name, int... a) {
        return switch (name) {
            case "put" -> tree.put(a[0], a[1], a[2], a[3]) ? 1 : 0;
            case "mount" -> tree.mount() ? 1 : 0;
            case "kind" -> tree.kind(a[0]);
            case "read" -> tree.read(a[0]);
            case "size" -> tree.size(a[0]);
            case "name" -> tree.name(a[0], a[1]);
            case "objects" -> tree.objects();
            case "origin" -> tree.origin(a[0]);
            case "makeDir" -> tree.makeDir(a[0]);
            case "write" -> tree.write(a[0], a[1]);
            case "remove" -> tree.remove(a[0]);
            case "rename" -> tree.rename(a[0], a[1]);
            case "entry" -> tree.entry(a[0], a[1]);
            case "entryValue" -> tree.entryValue(a[0], a[1]);
            case "entries" -> tree.entries(a[0]);
            case "whiteouts" -> tree.whiteouts();
            case "copies" -> tree.copies();
            default -> throw new IllegalArgumentException("no such call: " + name);
        };
    }

    /** Joins groups of rows, so that runs can share a beginning. */
    static String[] rows(Object... groups) {
        return Arrays.stream(groups)
            .flatMap(group -> group instanceof String[] many ? Arrays.stream(many) : Arrays.stream(new String[] {(String) group}))
            .toArray(String[]::new);
    }

    /** Files with value 1 at all paths with this parent, as put rows into a layer. */
    static String[] fiveFiles(int layer, int parent) {
        String[] rows = new String[5];
        for (int name = 1; name <= 5; name++) {
            rows[name - 1] = "put " + layer + " " + (parent * 10 + name) + " 1 1 = 1";
        }
        return rows;
    }

    static void end() {
        System.out.println(wrong == 0 ? "all answers are as due" : wrong + " answers are not as due");
        if (wrong != 0) {
            System.exit(1);
        }
    }

    private static int number(String word) {
        if (!Character.isLetter(word.charAt(0))) {
            return Integer.parseInt(word);
        }
        try {
            return LayeredTree.class.getField(word).getInt(null);
        } catch (ReflectiveOperationException missing) {
            throw new IllegalArgumentException("no such constant: " + word, missing);
        }
    }
}
