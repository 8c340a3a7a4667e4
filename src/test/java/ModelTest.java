import java.util.ArrayList;
import java.util.Arrays;
import java.util.List;
import java.util.Random;
import java.util.Set;
import java.util.TreeSet;

/** All promises: long runs of calls, each answered by LayeredTree as by PlainTree. The seeds are fixed. */
public final class ModelTest {
    private static final int RUNS = 2000;
    private static final int CALLS_OF_ONE_OBJECT = 512;
    private static final int CALLS_BEFORE_THE_LAST_LOOKS = 400;
    private static final int[] WRONG_PATHS = {-1, 6, 10, 16, 101, 1110, 5556, 6111, 11111, 55555, Integer.MAX_VALUE,
        Integer.MIN_VALUE};
    private static final List<String> LOOKS = List.of("kind", "read", "size", "origin", "name", "objects", "entry",
        "entryValue", "entries", "whiteouts", "copies", "put");
    private static final List<String> REQUESTS = List.of("makeDir", "write", "remove", "rename");
    private static final Set<String> MET = new TreeSet<>();

    private final Random random;
    private final int names;
    private final int directoriesInTen;
    private final int favouredLayer;
    private final int favouredRequest;
    private final LayeredTree tree;
    private final PlainTree plain;
    private final int upper;
    private final List<String> calls = new ArrayList<>();
    private boolean differs = false;

    private ModelTest(long seed) {
        random = new Random(seed);
        names = 2 + random.nextInt(4);
        directoriesInTen = 2 + random.nextInt(8);
        int lower = random.nextInt(6) - 1;
        upper = Math.max(1, Math.min(3, lower));
        tree = new LayeredTree(lower);
        plain = new PlainTree(lower);
        favouredLayer = random.nextInt(upper + 1);
        favouredRequest = random.nextInt(REQUESTS.size());
        calls.add("new " + lower);
    }

    public static void main(String[] args) {
        for (long seed = 1; seed <= RUNS; seed++) {
            if (!new ModelTest(seed).holds()) {
                System.exit(1);
            }
        }
        everyAnswerWasMet();
        Runs.end();
    }

    /** Runs that never met an answer would not have tested it. */
    private static void everyAnswerWasMet() {
        String[] due = {"makeDir 0 -1 -2 -4 -5 -11", "write 0 -1 -2 -4 -6 -11", "remove 0 -1 -2 -3 -8 -11",
            "rename 0 -1 -2 -3 -4 -6 -7 -8 -9 -10 -11", "put 0 1", "mount 0 1", "kind 0 1 2 -1 -2", "read 0 8 -1 -2 -3 -6",
            "size 0 5 -1 -2 -3 -7", "name 1 5 -1 -2 -3 -7", "objects 0 40 -1", "origin 0 1 2 3 -1 -2 -3",
            "entry 0 1 2 3 4 -2", "entryValue 0 8 -2 -3", "entries 0 30 -2", "whiteouts 0 9", "copies 0 9"};
        for (String row : due) {
            String[] words = row.split(" ");
            for (int i = 1; i < words.length; i++) {
                String answer = words[0] + " = " + words[i];
                Runs.due("runs with " + answer, MET.contains(answer) ? 1 : 0, 1);
            }
        }
    }

    private boolean holds() {
        int puts = random.nextInt(200);
        for (int i = 0; i < puts; i++) {
            same("put", layer(), path(), kind(), random.nextInt(20) == 0 ? -1 - random.nextInt(3) : random.nextInt(9));
            if (random.nextInt(20) == 0) {
                anyLook(path());
                anyRequest(path());
            }
        }
        same("mount");
        while (calls.size() < CALLS_BEFORE_THE_LAST_LOOKS && !differs) {
            int path = path();
            anyRequest(path);
            anyLook(path);
            anyLook(random.nextBoolean() ? path : path());
        }
        lastLooks();
        return !differs;
    }

    private int layer() {
        if (random.nextInt(30) == 0) {
            return random.nextInt(7) - 2;
        }
        return random.nextBoolean() ? favouredLayer : random.nextInt(upper + 1);
    }

    private int kind() {
        if (random.nextInt(30) == 0) {
            return random.nextInt(9) - 2;
        }
        if (random.nextInt(10) < directoriesInTen) {
            return random.nextInt(5) == 0 ? 3 : 2;
        }
        return random.nextInt(3) == 0 ? 4 : 1;
    }

    /** Mostly a path near an entry of some layer, for there the calls have most to do. */
    private int path() {
        if (random.nextInt(40) == 0) {
            return random.nextInt(3) == 0 ? 0 : WRONG_PATHS[random.nextInt(WRONG_PATHS.length)];
        }
        List<Integer> known = plain.entryPaths();
        int path = known.isEmpty() || random.nextInt(5) == 0 ? 0 : known.get(random.nextInt(known.size()));
        boolean deeper = path == 0 || (path < 1000 && random.nextBoolean());
        return deeper ? path * 10 + 1 + random.nextInt(names) : path;
    }

    private void anyRequest(int path) {
        String name = REQUESTS.get(random.nextBoolean() ? favouredRequest : random.nextInt(REQUESTS.size()));
        switch (name) {
            case "write" -> same(name, path, random.nextInt(50) - 1);
            case "rename" -> same(name, path, path());
            default -> same(name, path);
        }
    }

    private void anyLook(int path) {
        String name = LOOKS.get(random.nextInt(LOOKS.size()));
        switch (name) {
            case "objects", "whiteouts", "copies" -> same(name);
            case "name" -> same(name, path / 10, random.nextInt(8) - 1);
            case "size" -> same(name, path / 10);
            case "entry", "entryValue" -> same(name, random.nextInt(3) == 0 ? layer() : upper, path);
            case "entries" -> same(name, layer());
            case "put" -> same(name, layer(), path, kind(), random.nextInt(9));
            default -> same(name, path);
        }
    }

    private void lastLooks() {
        same("mount");
        same("objects");
        same("copies");
        same("whiteouts");
        same("entries", upper);
        for (int path : plain.entryPaths()) {
            same("entry", upper, path);
            same("kind", path);
            same("read", path);
            same("origin", path);
        }
    }

    private void same(String name, int... arguments) {
        if (differs || calls.size() > CALLS_OF_ONE_OBJECT) {
            return;
        }
        int due = plain.call(name, arguments);
        int got = new Call(name, arguments).on(tree);
        calls.add(name + Arrays.toString(arguments) + " = " + got);
        MET.add(name + " = " + due);
        if (got != due) {
            differs = true;
            System.out.println(String.join("\n", calls) + " - due is " + due);
        }
    }
}
