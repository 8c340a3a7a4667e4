import java.util.ArrayList;
import java.util.Arrays;
import java.util.HashSet;
import java.util.List;
import java.util.Map;
import java.util.Random;
import java.util.Set;
import java.util.TreeMap;

/**
 * What must hold between the answers themselves, whatever the layers are: seeded runs in which all that can be seen is
 * looked at before and after each request. No second program says here what is due, so a misreading that PlainTree
 * shares with LayeredTree would show.
 */
public final class AgreementTest {
    private static final int RUNS = 200;
    private static final int PUTS = 400;
    private static final int REQUESTS = 24;
    private static final List<Integer> PATHS = Picture.allPaths();
    private static final Set<String> MET = new HashSet<>();

    private final long seed;
    private final Random random;
    private final int names;
    private final int upper;
    private final int favouredLayer;
    private final LayeredTree tree;
    private final List<Call> calls = new ArrayList<>();

    private AgreementTest(long seed) {
        this.seed = seed;
        random = new Random(seed);
        names = 2 + random.nextInt(4);
        upper = 1 + random.nextInt(3);
        favouredLayer = random.nextBoolean() ? upper : random.nextInt(upper + 1);
        tree = new LayeredTree(upper);
    }

    public static void main(String[] args) {
        for (long seed = 1; seed <= RUNS && Runs.allAsDue(); seed++) {
            new AgreementTest(seed).run();
        }
        String[] answers = {"makeDir 0", "makeDir -11", "write 0", "write -11", "remove 0", "remove -11", "rename 0",
            "rename -11"};
        for (String answer : answers) {
            Runs.due("runs with " + answer, MET.contains(answer) ? 1 : 0, 1);
        }
        Runs.end();
    }

    private void run() {
        putSome();
        make(new Call("mount"));
        Picture before = new Picture(upper, calls);
        // One disagreement brings many more with it, which would only be noise.
        for (int i = 0; i < REQUESTS && Runs.allAsDue(); i++) {
            Call request = request(before);
            int answer = make(request);
            MET.add(request.name() + " " + answer);
            Picture after = new Picture(upper, calls);
            layersAgree(after);
            treeAgrees(after);
            onlyUpperChanges(before, after);
            requestDidItsPart(request, answer, before, after);
            before = after;
        }
    }

    private void putSome() {
        for (int i = 0; i < PUTS; i++) {
            int layer = random.nextBoolean() ? favouredLayer : random.nextInt(upper + 1);
            Call put = new Call("put", layer, path(), kind(), random.nextInt(99));
            // A refused put changes nothing, so the pictures need not make it again.
            if (put.on(tree) == 1) {
                calls.add(put);
            }
        }
    }

    private int make(Call call) {
        calls.add(call);
        return call.on(tree);
    }

    private int kind() {
        int[] often = {1, 1, 2, 2, 2, 2, 2, 3, 4};
        return often[random.nextInt(often.length)];
    }

    private int path() {
        int path = 0;
        for (int left = 1 + random.nextInt(4); left > 0; left--) {
            path = path * 10 + 1 + random.nextInt(names);
        }
        return path;
    }

    private Call request(Picture now) {
        return switch (random.nextInt(5)) {
            case 0 -> new Call("makeDir", path(now, 0));
            case 1 -> new Call("write", path(now, random.nextInt(2)), random.nextInt(99));
            case 2 -> new Call("remove", path(now, 1 + random.nextInt(2)));
            default -> new Call("rename", path(now, 1 + random.nextInt(2)), path(now, random.nextInt(3)));
        };
    }

    /** Mostly one where this kind of object is and whose parent is a directory, so that most requests are granted. */
    private int path(Picture now, int kind) {
        int path = path();
        for (int tries = 0; tries < 30; tries++) {
            if (now.answer("kind", path) == kind && now.answer("kind", path / 10) == 2) {
                return path;
            }
            path = path();
        }
        return path;
    }

    /** Terms, "LAYERS", and promises 14 to 17. */
    private void layersAgree(Picture now) {
        int lowerEntries = 0;
        for (int layer = 0; layer < upper; layer++) {
            lowerEntries += entriesAgree(now, layer);
        }
        int upperEntries = entriesAgree(now, upper);
        due(Math.max(lowerEntries, 60), 60, "the most lower entries");
        due(Math.max(upperEntries, 30), 30, "the most upper entries");
        long whiteouts = PATHS.stream().filter(path -> now.answer("entry", upper, path) == 4).count();
        due(now.answer("whiteouts"), (int) whiteouts, "whiteouts");
    }

    private int entriesAgree(Picture now, int layer) {
        int entries = 0;
        for (int path : PATHS) {
            int entry = now.answer("entry", layer, path);
            boolean hasValue = now.answer("entryValue", layer, path) != LayeredTree.NONE;
            due(hasValue ? 1 : 0, entry == 1 ? 1 : 0, "a value for a file alone", layer, path);
            if (entry != 0) {
                entries++;
                due(isDirectoryOf(now, layer, path / 10) ? 1 : 0, 1, "the parent of an entry", layer, path);
            }
        }
        due(now.answer("entries", layer), entries, "entries", layer);
        return entries;
    }

    private boolean isDirectoryOf(Picture now, int layer, int path) {
        return path == 0 || isEntry(now, layer, path, 2) || isEntry(now, layer, path, 3);
    }

    private boolean isEntry(Picture now, int layer, int path, int kind) {
        return layer >= 0 && layer <= upper && now.answer("entry", layer, path) == kind;
    }

    /** Terms, "THE TREE", and promises 4 to 9. */
    private void treeAgrees(Picture now) {
        int objects = 0;
        due(now.answer("kind", 0), 2, "kind of the root");
        agreesIn(now, 0);
        for (int path : PATHS) {
            int kind = now.answer("kind", path);
            switch (kind) {
                case 0 -> nothingAgrees(now, path);
                case 1 -> fileAgrees(now, path);
                default -> directoryAgrees(now, path);
            }
            if (kind != 0) {
                objects++;
                due(now.answer("kind", path / 10), 2, "the parent of an object", path);
            }
            upperEntryDecides(now, path);
        }
        due(now.answer("objects"), objects, "objects");
    }

    private void nothingAgrees(Picture now, int path) {
        for (String look : new String[] {"read", "size", "origin"}) {
            due(now.answer(look, path), LayeredTree.NONE, look, path);
        }
        due(now.answer("name", path, 0), LayeredTree.NONE, "name", path);
    }

    private void fileAgrees(Picture now, int path) {
        int origin = now.answer("origin", path);
        boolean isThere = isEntry(now, origin, path, 1);
        due(isThere ? 1 : 0, 1, "the origin of a file", path);
        due(now.answer("read", path), isThere ? now.answer("entryValue", origin, path) : 0, "read", path);
        due(now.answer("size", path), LayeredTree.IS_FILE, "size", path);
        due(now.answer("name", path, 0), LayeredTree.IS_FILE, "name", path);
    }

    private void directoryAgrees(Picture now, int path) {
        due(now.answer("kind", path), 2, "kind", path);
        due(isDirectoryOf(now, now.answer("origin", path), path) ? 1 : 0, 1, "the origin of a directory", path);
        due(now.answer("read", path), LayeredTree.IS_DIRECTORY, "read", path);
        agreesIn(now, path);
    }

    private void agreesIn(Picture now, int directory) {
        int size = 0;
        int first = LayeredTree.NONE;
        for (int name = 5; name >= 1 && directory < 1000; name--) {
            if (now.answer("kind", directory * 10 + name) != 0) {
                size++;
                first = name;
            }
        }
        due(now.answer("size", directory), size, "size", directory);
        due(now.answer("name", directory, 0), first, "name", directory);
    }

    /** The upper layer comes first, and has no entry below a path that it does not show. */
    private void upperEntryDecides(Picture now, int path) {
        int entry = now.answer("entry", upper, path);
        if (entry != 0) {
            due(now.answer("kind", path), entry == 4 ? 0 : entry == 1 ? 1 : 2, "kind by the upper entry", path);
            due(now.answer("origin", path), entry == 4 ? LayeredTree.NONE : upper, "origin by the upper entry", path);
        }
    }

    /** "The lower layers are only read." */
    private void onlyUpperChanges(Picture before, Picture after) {
        for (int layer = 0; layer < upper; layer++) {
            for (int path : PATHS) {
                due(after.answer("entry", layer, path), before.answer("entry", layer, path), "entry", layer, path);
                due(after.answer("entryValue", layer, path), before.answer("entryValue", layer, path), "entryValue",
                    layer, path);
            }
        }
    }

    private void requestDidItsPart(Call request, int answer, Picture before, Picture after) {
        if (answer < 0) {
            String difference = after.differenceFrom(before);
            due(difference.isEmpty() ? 0 : 1, 0, "refused, but " + difference);
            return;
        }
        Map<String, Integer> wanted = objects(before);
        String path = Integer.toString(request.arguments()[0]);
        switch (request.name()) {
            case "makeDir" -> wanted.put(path, LayeredTree.IS_DIRECTORY);
            case "write" -> wanted.put(path, request.arguments()[1]);
            case "remove" -> wanted.remove(path);
            default -> move(wanted, path, Integer.toString(request.arguments()[1]));
        }
        Map<String, Integer> got = objects(after);
        due(got.equals(wanted) ? 1 : 0, 1, "the tree is " + got + ", due is " + wanted);
        due(after.answer("copies") - before.answer("copies"), copyUps(request, before, after), "copy-ups");
    }

    /** What read() answers at each object: a value, or IS_DIRECTORY. */
    private static Map<String, Integer> objects(Picture now) {
        Map<String, Integer> objects = new TreeMap<>();
        for (int path : PATHS) {
            if (now.answer("kind", path) != 0) {
                objects.put(Integer.toString(path), now.answer("read", path));
            }
        }
        return objects;
    }

    private static void move(Map<String, Integer> objects, String from, String to) {
        Map<String, Integer> moved = new TreeMap<>();
        objects.forEach((path, read) -> {
            if (path.startsWith(from)) {
                moved.put(to + path.substring(from.length()), read);
            }
        });
        objects.keySet().removeIf(path -> path.startsWith(from));
        objects.putAll(moved);
    }

    /** Directories above what the request names that have come into the upper layer, and a lower file written over. */
    private int copyUps(Call request, Picture before, Picture after) {
        int path = request.arguments()[0];
        boolean isCopied = request.name().equals("write") && before.answer("kind", path) == 1
            && before.answer("origin", path) < upper;
        int copyUps = isCopied ? 1 : 0;
        for (int above : pathsAbove(request)) {
            if (before.answer("entry", upper, above) == 0 && after.answer("entry", upper, above) != 0) {
                copyUps++;
            }
        }
        return copyUps;
    }

    private static Set<Integer> pathsAbove(Call request) {
        int paths = request.name().equals("rename") ? 2 : 1;
        Set<Integer> found = new HashSet<>();
        for (int i = 0; i < paths; i++) {
            for (int above = request.arguments()[i] / 10; above > 0; above /= 10) {
                found.add(above);
            }
        }
        return found;
    }

    private void due(int got, int want, String what, int... where) {
        if (got != want) {
            Runs.due("seed " + seed + ", after " + calls + ": " + what + " " + Arrays.toString(where), got, want);
        }
    }
}
