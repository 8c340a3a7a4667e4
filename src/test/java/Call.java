import java.util.Arrays;
import java.util.stream.Collectors;

/** One call with its arguments, to be made on any object. A boolean answer counts 1 or 0. */
record Call(String name, int... arguments) {
    /** From words as in "put 0 12 1 7". */
    static Call of(String words) {
        String[] parts = words.trim().split(" +");
        return new Call(parts[0], Arrays.stream(parts).skip(1).mapToInt(Integer::parseInt).toArray());
    }

    int on(LayeredTree tree) {
        int[] a = arguments;
        return switch (name) {
            case "put" -> tree.put(a[0], a[1], a[2], a[3]) ? 1 : 0;
            case "mount" -> tree.mount() ? 1 : 0;
            case "kind" -> tree.kind(a[0]);
            case "read" -> tree.read(a[0]);
            case "size" -> tree.size(a[0]);
            case "name" -> tree.name(a[0], a[1]);
            case "objects" -> tree.objects();
            case "origin" -> tree.origin(a[0]);
            case "makeDir" -> tree.makeDir(a[0]);
            case "write" -> tree.write(a[0], a[1]);
            case "remove" -> tree.remove(a[0]);
            case "rename" -> tree.rename(a[0], a[1]);
            case "entry" -> tree.entry(a[0], a[1]);
            case "entryValue" -> tree.entryValue(a[0], a[1]);
            case "entries" -> tree.entries(a[0]);
            case "whiteouts" -> tree.whiteouts();
            case "copies" -> tree.copies();
            default -> throw new IllegalArgumentException("no such call: " + name);
        };
    }

    /** Whether this answer refuses a call that would have changed something. */
    boolean isRefusedBy(int answer) {
        return switch (name) {
            case "put", "mount" -> answer == 0;
            case "makeDir", "write", "remove", "rename" -> answer < 0;
            default -> false;
        };
    }

    @Override
    public String toString() {
        return Arrays.stream(arguments).mapToObj(Integer::toString).collect(Collectors.joining(", ", name + "(", ")"));
    }
}
