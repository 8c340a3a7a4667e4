import java.util.ArrayList;
import java.util.List;
import java.util.Map;
import java.util.TreeMap;

/**
 * The document said a second time, in its own words and as plainly as the Java library allows: paths are texts, layers
 * are maps from paths to entries, a request works on copies and is taken over at its end.
 */
final class PlainTree {
    private static final int FILE = 1;
    private static final int DIRECTORY = 2;
    private static final int OPAQUE = 3;
    private static final int WHITEOUT = 4;

    private record Entry(int kind, int value) {
        boolean isDirectory() {
            return kind == DIRECTORY || kind == OPAQUE;
        }
    }

    /** What is at a path: a file with its value, or a directory with its parts; the origin of either. */
    private record Thing(boolean isDirectory, int value, int origin, List<Integer> parts) {}

    private final int upper;
    private List<TreeMap<String, Entry>> layers = new ArrayList<>();
    private int copies = 0;
    private boolean mounted = false;

    PlainTree(int lower) {
        upper = lower < 1 ? 1 : lower > 3 ? 3 : lower;
        for (int layer = 0; layer <= upper; layer++) {
            layers.add(new TreeMap<>());
        }
    }

    int call(String name, int... a) {
        return switch (name) {
            case "put" -> put(a[0], text(a[1]), a[2], a[3]);
            case "mount" -> mount();
            case "kind", "read", "size", "name", "origin" -> look(name, a);
            case "objects" -> mounted ? below("").size() : LayeredTree.UNMOUNTED;
            case "makeDir", "write", "remove", "rename" -> request(name, a);
            case "entry", "entryValue" -> entry(name, a[0], text(a[1]));
            case "entries" -> isLayer(a[0]) ? layers.get(a[0]).size() : LayeredTree.BAD;
            case "whiteouts" -> (int) layers.get(upper).values().stream().filter(e -> e.kind == WHITEOUT).count();
            case "copies" -> copies;
            default -> throw new IllegalArgumentException(name);
        };
    }

    /** The paths at which some layer has an entry, so that a test can call where something happens. */
    List<Integer> entryPaths() {
        return layers.stream().flatMap(layer -> layer.keySet().stream()).distinct().map(Integer::valueOf).toList();
    }

    /** The path as a text, "" being the root, or null when it is no path. */
    private static String text(int path) {
        String digits = Integer.toString(path);
        return path == 0 ? "" : digits.matches("[1-5]{1,4}") ? digits : null;
    }

    private static String parent(String path) {
        return path.substring(0, path.length() - 1);
    }

    private static boolean isObjectPath(String path) {
        return path != null && !path.isEmpty();
    }

    private boolean isLayer(int layer) {
        return 0 <= layer && layer <= upper;
    }

    private int put(int layer, String path, int kind, int value) {
        if (mounted || !isLayer(layer) || !isObjectPath(path) || kind < 1 || kind > 4 || (kind == FILE && value < 0)) {
            return 0;
        }
        Map<String, Entry> entries = layers.get(layer);
        Entry holder = entries.get(parent(path));
        if (entries.containsKey(path) || (path.length() > 1 && (holder == null || !holder.isDirectory()))) {
            return 0;
        }
        int lowerEntries = layers.subList(0, upper).stream().mapToInt(Map::size).sum();
        if (layer == upper ? entries.size() == 30 : lowerEntries == 60) {
            return 0;
        }
        entries.put(path, new Entry(kind, value));
        return 1;
    }

    private int mount() {
        int answer = mounted ? 0 : 1;
        mounted = true;
        return answer;
    }

    private int entry(String name, int layer, String path) {
        if (!isLayer(layer) || !isObjectPath(path)) {
            return LayeredTree.BAD;
        }
        Entry entry = layers.get(layer).get(path);
        if (name.equals("entry")) {
            return entry == null ? 0 : entry.kind;
        }
        return entry != null && entry.kind == FILE ? entry.value : LayeredTree.NONE;
    }

    private Thing at(String path) {
        if (path.isEmpty()) {
            List<Integer> all = new ArrayList<>();
            for (int layer = upper; layer >= 0; layer--) {
                all.add(layer);
            }
            return new Thing(true, 0, upper, all);
        }
        Thing holder = at(parent(path));
        if (holder == null || !holder.isDirectory) {
            return null;
        }
        List<Integer> parts = new ArrayList<>();
        for (int layer : holder.parts) {
            Entry entry = layers.get(layer).get(path);
            if (entry == null) {
                continue;
            }
            if (parts.isEmpty() && entry.kind == FILE) {
                return new Thing(false, entry.value, layer, List.of());
            }
            if (entry.isDirectory()) {
                parts.add(layer);
            }
            if (entry.kind != DIRECTORY) {
                break;
            }
        }
        return parts.isEmpty() ? null : new Thing(true, 0, parts.get(0), parts);
    }

    private List<String> in(String path) {
        List<String> found = new ArrayList<>();
        for (char name = '1'; name <= '5' && path.length() < 4; name++) {
            if (at(path + name) != null) {
                found.add(path + name);
            }
        }
        return found;
    }

    /** All objects below a path, directories before what is in them. */
    private List<String> below(String path) {
        List<String> found = new ArrayList<>();
        for (String inner : in(path)) {
            found.add(inner);
            found.addAll(below(inner));
        }
        return found;
    }

    private int look(String name, int[] a) {
        String path = text(a[0]);
        if (!mounted) {
            return LayeredTree.UNMOUNTED;
        }
        if (path == null || (name.equals("origin") && path.isEmpty())) {
            return LayeredTree.BAD;
        }
        Thing thing = at(path);
        if (name.equals("kind")) {
            return thing == null ? 0 : thing.isDirectory ? 2 : 1;
        }
        if (thing == null) {
            return LayeredTree.NONE;
        }
        if (name.equals("origin")) {
            return thing.origin;
        }
        if (name.equals("read")) {
            return thing.isDirectory ? LayeredTree.IS_DIRECTORY : thing.value;
        }
        if (!thing.isDirectory) {
            return LayeredTree.IS_FILE;
        }
        List<String> inside = in(path);
        if (name.equals("size")) {
            return inside.size();
        }
        return a[1] < 0 || a[1] >= inside.size() ? LayeredTree.NONE : inside.get(a[1]).charAt(path.length()) - '0';
    }

    private int request(String name, int[] a) {
        List<TreeMap<String, Entry>> before = new ArrayList<>();
        layers.forEach(layer -> before.add(new TreeMap<>(layer)));
        int copiesBefore = copies;
        int answer = switch (name) {
            case "makeDir" -> makeDir(text(a[0]));
            case "write" -> write(text(a[0]), a[1]);
            case "remove" -> remove(text(a[0]));
            default -> rename(text(a[0]), text(a[1]));
        };
        if (answer == 0 && layers.get(upper).size() > 30) {
            answer = LayeredTree.FULL;
        }
        if (answer != 0) {
            layers = before;
            copies = copiesBefore;
        }
        return answer;
    }

    private boolean isDirectory(String path) {
        Thing thing = at(path);
        return thing != null && thing.isDirectory;
    }

    private boolean isFile(String path) {
        Thing thing = at(path);
        return thing != null && !thing.isDirectory;
    }

    private int makeDir(String path) {
        if (!mounted) {
            return LayeredTree.UNMOUNTED;
        }
        if (!isObjectPath(path)) {
            return LayeredTree.BAD;
        }
        if (!isDirectory(parent(path))) {
            return LayeredTree.NO_PARENT;
        }
        if (at(path) != null) {
            return LayeredTree.EXISTS;
        }
        make(path, true, 0);
        return 0;
    }

    private int write(String path, int value) {
        if (!mounted) {
            return LayeredTree.UNMOUNTED;
        }
        if (!isObjectPath(path) || value < 0) {
            return LayeredTree.BAD;
        }
        if (!isDirectory(parent(path))) {
            return LayeredTree.NO_PARENT;
        }
        if (isDirectory(path)) {
            return LayeredTree.IS_DIRECTORY;
        }
        if (isFile(path) && at(path).origin < upper) {
            copies++;
        }
        make(path, false, value);
        return 0;
    }

    private int remove(String path) {
        if (!mounted) {
            return LayeredTree.UNMOUNTED;
        }
        if (!isObjectPath(path)) {
            return LayeredTree.BAD;
        }
        if (at(path) == null) {
            return LayeredTree.NONE;
        }
        if (!in(path).isEmpty()) {
            return LayeredTree.NOT_EMPTY;
        }
        unmake(path);
        return 0;
    }

    private int rename(String from, String to) {
        if (!mounted) {
            return LayeredTree.UNMOUNTED;
        }
        if (!isObjectPath(from) || !isObjectPath(to)) {
            return LayeredTree.BAD;
        }
        if (at(from) == null) {
            return LayeredTree.NONE;
        }
        if (from.equals(to)) {
            return 0;
        }
        if (to.startsWith(from)) {
            return LayeredTree.INSIDE;
        }
        if (!isDirectory(parent(to))) {
            return LayeredTree.NO_PARENT;
        }
        if (isDirectory(to) && isFile(from)) {
            return LayeredTree.IS_DIRECTORY;
        }
        if (isFile(to) && isDirectory(from)) {
            return LayeredTree.IS_FILE;
        }
        if (!in(to).isEmpty()) {
            return LayeredTree.NOT_EMPTY;
        }
        List<String> moved = new ArrayList<>(List.of(from));
        moved.addAll(below(from));
        Map<String, Thing> noted = new TreeMap<>();
        for (String path : moved) {
            noted.put(path, at(path));
            if (path.length() - from.length() + to.length() > 4) {
                return LayeredTree.DEEP;
            }
        }
        for (String path : moved) {
            make(to + path.substring(from.length()), noted.get(path).isDirectory, noted.get(path).value);
        }
        unmake(from);
        return 0;
    }

    private boolean isCovered(String path) {
        Entry hidden = layers.get(upper).remove(path);
        boolean covered = at(path) != null;
        if (hidden != null) {
            layers.get(upper).put(path, hidden);
        }
        return covered;
    }

    private void raise(String path) {
        for (int length = 1; length <= path.length(); length++) {
            String directory = path.substring(0, length);
            if (!layers.get(upper).containsKey(directory)) {
                layers.get(upper).put(directory, new Entry(DIRECTORY, 0));
                copies++;
            }
        }
    }

    private void make(String path, boolean directory, int value) {
        raise(parent(path));
        layers.get(upper).keySet().removeIf(other -> other.startsWith(path));
        int kind = !directory ? FILE : isCovered(path) ? OPAQUE : DIRECTORY;
        layers.get(upper).put(path, new Entry(kind, value));
    }

    private void unmake(String path) {
        layers.get(upper).keySet().removeIf(other -> other.startsWith(path));
        if (isCovered(path)) {
            raise(parent(path));
            layers.get(upper).put(path, new Entry(WHITEOUT, 0));
        }
    }
}
