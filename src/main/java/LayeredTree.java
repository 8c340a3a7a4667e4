/** One tree of files and directories made of layers: lower ones that are only read, and an upper one that takes all changes. */
public final class LayeredTree {
    public static final int UNMOUNTED = -1;
    public static final int BAD = -2;
    public static final int NONE = -3;
    public static final int NO_PARENT = -4;
    public static final int EXISTS = -5;
    public static final int IS_DIRECTORY = -6;
    public static final int IS_FILE = -7;
    public static final int NOT_EMPTY = -8;
    public static final int INSIDE = -9;
    public static final int DEEP = -10;
    public static final int FULL = -11;

    private static final int DONE = 0;

    private static final int NOTHING = 0;
    private static final int FILE = 1;
    private static final int DIRECTORY = 2;
    private static final int OPAQUE = 3;
    private static final int WHITEOUT = 4;

    private static final int MIN_LOWER_LAYERS = 1;
    private static final int MAX_LOWER_LAYERS = 3;
    private static final int MAX_LOWER_ENTRIES = 60;
    private static final int MAX_UPPER_ENTRIES = 30;

    private final int top;
    private final Layer[] layers;
    private final Layer upper;
    private boolean mounted;
    private int copyUps;

    /** The upper layer and the copy-ups as they were before the request at hand, in case it turns out to be FULL. */
    private final Layer keptUpper;
    private int keptCopyUps;

    /** What rename() moves, each object at the place that it has relative to the moved one. */
    private final int[] noted;

    public LayeredTree(int lower) {
        top = Math.max(MIN_LOWER_LAYERS, Math.min(lower, MAX_LOWER_LAYERS));
        layers = new Layer[top + 1];
        for (int layer = 0; layer <= top; layer++) {
            layers[layer] = new Layer();
        }
        upper = layers[top];
        keptUpper = new Layer();
        noted = new int[Places.MOST_IN_ONE_SUBTREE];
    }

    // Before mounting

    public boolean put(int layer, int path, int kind, int value) {
        int place = Places.ofPath(path);
        if (mounted || !isLayer(layer) || place <= Places.ROOT) {
            return false;
        }
        if (kind < FILE || kind > WHITEOUT || (kind == FILE && value < 0)) {
            return false;
        }
        Layer target = layers[layer];
        if (target.kindAt(place) != NOTHING || !target.canHoldIn(Places.parent(place)) || !hasRoomIn(layer)) {
            return false;
        }
        target.set(place, kind == FILE ? Layer.fileCell(value) : kind);
        return true;
    }

    public boolean mount() {
        if (mounted) {
            return false;
        }
        mounted = true;
        return true;
    }

    // Looking at the tree

    public int kind(int path) {
        int place = placeOrRefusal(path);
        if (place < 0) {
            return place;
        }
        int found = find(place);
        if (found == NOTHING) {
            return NOTHING;
        }
        return isFile(found) ? FILE : DIRECTORY;
    }

    public int read(int path) {
        int place = placeOrRefusal(path);
        if (place < 0) {
            return place;
        }
        int found = find(place);
        if (found == NOTHING) {
            return NONE;
        }
        return isFile(found) ? layers[layerOfFile(found)].valueAt(place) : IS_DIRECTORY;
    }

    public int size(int path) {
        int place = directoryPlaceOrRefusal(path);
        return place < 0 ? place : countIn(place, find(place));
    }

    public int name(int path, int i) {
        int place = directoryPlaceOrRefusal(path);
        if (place < 0) {
            return place;
        }
        int parts = find(place);
        int before = 0;
        for (int name = 1; name <= Places.NAMES; name++) {
            if (findAmong(parts, Places.child(place, name)) != NOTHING) {
                if (before == i) {
                    return name;
                }
                before++;
            }
        }
        return NONE;
    }

    public int objects() {
        return mounted ? countBelow(Places.ROOT, find(Places.ROOT)) : UNMOUNTED;
    }

    public int origin(int path) {
        int place = objectPlaceOrRefusal(path);
        if (place < 0) {
            return place;
        }
        int found = find(place);
        return found == NOTHING ? NONE : originOf(found);
    }

    // Requests

    public int makeDir(int path) {
        int place = objectPlaceOrRefusal(path);
        if (place < 0) {
            return place;
        }
        if (!isDirectory(find(Places.parent(place)))) {
            return NO_PARENT;
        }
        if (find(place) != NOTHING) {
            return EXISTS;
        }
        keepUpper();
        makeAt(place, DIRECTORY);
        return settle();
    }

    public int write(int path, int value) {
        int place = objectPlaceOrRefusal(path);
        if (place < 0) {
            return place;
        }
        if (value < 0) {
            return BAD;
        }
        if (!isDirectory(find(Places.parent(place)))) {
            return NO_PARENT;
        }
        int found = find(place);
        if (isDirectory(found)) {
            return IS_DIRECTORY;
        }
        keepUpper();
        if (isFile(found) && layerOfFile(found) != top) {
            copyUps++;
        }
        makeAt(place, Layer.fileCell(value));
        return settle();
    }

    public int remove(int path) {
        int place = objectPlaceOrRefusal(path);
        if (place < 0) {
            return place;
        }
        int found = find(place);
        if (found == NOTHING) {
            return NONE;
        }
        if (isFilledDirectory(place, found)) {
            return NOT_EMPTY;
        }
        keepUpper();
        unmakeAt(place);
        return settle();
    }

    public int rename(int from, int to) {
        int source = objectPlaceOrRefusal(from);
        int target = objectPlaceOrRefusal(to);
        if (source < 0) {
            return source;
        }
        if (target < 0) {
            return target;
        }
        if (find(source) == NOTHING) {
            return NONE;
        }
        if (source == target) {
            return DONE;
        }
        int refusal = refusalOfTarget(source, target);
        if (refusal != DONE) {
            return refusal;
        }
        noteFrom(source);
        if (Places.depth(target) + depthOfNoted() > Places.DEEPEST) {
            return DEEP;
        }
        keepUpper();
        makeNotedAt(target);
        unmakeAt(source);
        return settle();
    }

    // Looking at the layers

    public int entry(int layer, int path) {
        int place = Places.ofPath(path);
        if (!isLayer(layer) || place <= Places.ROOT) {
            return BAD;
        }
        return layers[layer].kindAt(place);
    }

    public int entryValue(int layer, int path) {
        int place = Places.ofPath(path);
        if (!isLayer(layer) || place <= Places.ROOT) {
            return BAD;
        }
        return layers[layer].kindAt(place) == FILE ? layers[layer].valueAt(place) : NONE;
    }

    public int entries(int layer) {
        return isLayer(layer) ? layers[layer].entryCount() : BAD;
    }

    public int whiteouts() {
        return upper.whiteoutCount();
    }

    public int copies() {
        return copyUps;
    }

    // Paths as calls give them: a place is never negative and a refusal always is, so one number can be either.

    private int placeOrRefusal(int path) {
        if (!mounted) {
            return UNMOUNTED;
        }
        int place = Places.ofPath(path);
        return place == Places.NO_PLACE ? BAD : place;
    }

    private int objectPlaceOrRefusal(int path) {
        int place = placeOrRefusal(path);
        return place == Places.ROOT ? BAD : place;
    }

    private int directoryPlaceOrRefusal(int path) {
        int place = placeOrRefusal(path);
        if (place < 0) {
            return place;
        }
        int found = find(place);
        if (found == NOTHING) {
            return NONE;
        }
        return isFile(found) ? IS_FILE : place;
    }

    // Layers and their bounds

    private boolean isLayer(int layer) {
        return layer >= 0 && layer <= top;
    }

    private boolean hasRoomIn(int layer) {
        if (layer == top) {
            return upper.entryCount() < MAX_UPPER_ENTRIES;
        }
        int count = 0;
        for (int lower = 0; lower < top; lower++) {
            count += layers[lower].entryCount();
        }
        return count < MAX_LOWER_ENTRIES;
    }

    // What is found at a place is one number, so that looking makes no objects: NOTHING, a positive number for a
    // directory (its parts, bit n being layer n), or a negative one for a file (the complement of its layer).

    private static boolean isDirectory(int found) {
        return found > NOTHING;
    }

    private static boolean isFile(int found) {
        return found < NOTHING;
    }

    private static int foundFile(int layer) {
        return ~layer;
    }

    private static int layerOfFile(int found) {
        return ~found;
    }

    private int originOf(int found) {
        if (isFile(found)) {
            return layerOfFile(found);
        }
        int layer = top;
        while (layer > 0 && !isPart(layer, found)) {
            layer--;
        }
        return layer;
    }

    private static boolean isPart(int layer, int parts) {
        return (parts >> layer & 1) == 1;
    }

    private static int partOf(int layer) {
        return 1 << layer;
    }

    private int allParts() {
        return partOf(top + 1) - 1;
    }

    private int find(int place) {
        int found = allParts();
        for (int up = Places.depth(place) - 1; up >= 0; up--) {
            if (!isDirectory(found)) {
                return NOTHING;
            }
            found = findAmong(found, Places.above(place, up));
        }
        return found;
    }

    private int findAmong(int partsOfParent, int place) {
        int found = NOTHING;
        for (int layer = top; layer >= 0; layer--) {
            if (isPart(layer, partsOfParent)) {
                int kind = layers[layer].kindAt(place);
                if (kind == FILE) {
                    return found == NOTHING ? foundFile(layer) : found;
                }
                if (kind == WHITEOUT) {
                    return found;
                }
                if (kind == OPAQUE) {
                    return found | partOf(layer);
                }
                if (kind == DIRECTORY) {
                    found |= partOf(layer);
                }
            }
        }
        return found;
    }

    private boolean isCovered(int place) {
        int partsOfParent = find(Places.parent(place));
        return isDirectory(partsOfParent) && findAmong(partsOfParent & ~partOf(top), place) != NOTHING;
    }

    private int countIn(int place, int parts) {
        int count = 0;
        for (int name = 1; name <= Places.NAMES; name++) {
            if (findAmong(parts, Places.child(place, name)) != NOTHING) {
                count++;
            }
        }
        return count;
    }

    private int countBelow(int place, int parts) {
        if (Places.depth(place) >= Places.DEEPEST) {
            return 0;
        }
        int count = 0;
        for (int name = 1; name <= Places.NAMES; name++) {
            int child = Places.child(place, name);
            int found = findAmong(parts, child);
            if (found != NOTHING) {
                count++;
            }
            if (isDirectory(found)) {
                count += countBelow(child, found);
            }
        }
        return count;
    }

    private boolean isFilledDirectory(int place, int found) {
        return isDirectory(found) && countIn(place, found) > 0;
    }

    // Changing the upper layer

    private void keepUpper() {
        keptUpper.copyFrom(upper);
        keptCopyUps = copyUps;
    }

    private int settle() {
        if (upper.entryCount() <= MAX_UPPER_ENTRIES) {
            return DONE;
        }
        upper.copyFrom(keptUpper);
        copyUps = keptCopyUps;
        return FULL;
    }

    private void raise(int place) {
        for (int up = Places.depth(place) - 1; up >= 0; up--) {
            int directory = Places.above(place, up);
            if (upper.kindAt(directory) == NOTHING) {
                upper.set(directory, DIRECTORY);
                copyUps++;
            }
        }
    }

    private void makeAt(int place, int cell) {
        raise(Places.parent(place));
        upper.clearFrom(place);
        upper.set(place, cell == DIRECTORY && isCovered(place) ? OPAQUE : cell);
    }

    private void unmakeAt(int place) {
        upper.clearFrom(place);
        if (isCovered(place)) {
            raise(Places.parent(place));
            upper.set(place, WHITEOUT);
        }
    }

    // Moving

    private int refusalOfTarget(int source, int target) {
        if (Places.isBelow(target, source)) {
            return INSIDE;
        }
        if (!isDirectory(find(Places.parent(target)))) {
            return NO_PARENT;
        }
        int moved = find(source);
        int replaced = find(target);
        if (isDirectory(replaced) && isFile(moved)) {
            return IS_DIRECTORY;
        }
        if (isFile(replaced) && isDirectory(moved)) {
            return IS_FILE;
        }
        return isFilledDirectory(target, replaced) ? NOT_EMPTY : DONE;
    }

    private void noteFrom(int source) {
        noted[Places.ROOT] = cellOfObject(source);
        for (int inner = 1; inner < noted.length; inner++) {
            boolean inDirectory = noted[Places.parent(inner)] == DIRECTORY;
            noted[inner] = inDirectory ? cellOfObject(Places.below(source, inner)) : NOTHING;
        }
    }

    private int cellOfObject(int place) {
        if (place >= Places.COUNT) {
            return NOTHING;
        }
        int found = find(place);
        if (isFile(found)) {
            return Layer.fileCell(layers[layerOfFile(found)].valueAt(place));
        }
        return isDirectory(found) ? DIRECTORY : NOTHING;
    }

    private int depthOfNoted() {
        // Places go level by level, so the last object that was noted is one of the deepest.
        int depth = 0;
        for (int inner = 0; inner < noted.length; inner++) {
            if (noted[inner] != NOTHING) {
                depth = Places.depth(inner);
            }
        }
        return depth;
    }

    private void makeNotedAt(int target) {
        for (int inner = 0; inner < noted.length; inner++) {
            if (noted[inner] != NOTHING) {
                makeAt(Places.below(target, inner), noted[inner]);
            }
        }
    }

    /**
     * Paths numbered without gaps, level by level: 0 is the root, and the objects in place p are 5p + 1 .. 5p + 5.
     * So a parent always comes before what is in it.
     */
    private static final class Places {
        static final int NO_PLACE = -1;
        static final int ROOT = 0;
        static final int NAMES = 5;
        static final int DEEPEST = 4;
        static final int COUNT = 781;
        static final int MOST_IN_ONE_SUBTREE = 156;

        private static final int OUTERMOST_DIGIT = 1000;
        private static final int[] FIRST_OF_DEPTH = {0, 1, 6, 31, 156};
        private static final int[] NUMBER_OF_DEPTH = {1, 5, 25, 125, 625};

        static int ofPath(int path) {
            if (path < 0 || path >= OUTERMOST_DIGIT * 10) {
                return NO_PLACE;
            }
            int place = ROOT;
            for (int digit = OUTERMOST_DIGIT; digit > 0; digit /= 10) {
                if (path >= digit) {
                    int name = path / digit % 10;
                    if (name < 1 || name > NAMES) {
                        return NO_PLACE;
                    }
                    place = child(place, name);
                }
            }
            return place;
        }

        static int depth(int place) {
            int depth = DEEPEST;
            while (depth > 0 && place < FIRST_OF_DEPTH[depth]) {
                depth--;
            }
            return depth;
        }

        static int child(int place, int name) {
            return place * NAMES + name;
        }

        static int parent(int place) {
            return above(place, 1);
        }

        static int above(int place, int up) {
            return (place - FIRST_OF_DEPTH[up]) / NUMBER_OF_DEPTH[up];
        }

        /** The place that lies to base as inner lies to the root. */
        static int below(int base, int inner) {
            return base * NUMBER_OF_DEPTH[depth(inner)] + inner;
        }

        static boolean isBelow(int place, int base) {
            int up = depth(place) - depth(base);
            return up > 0 && above(place, up) == base;
        }
    }

    /** The entries of one layer. */
    private static final class Layer {
        /** At each place its kind, but for a file the complement of its value, which no kind can be. */
        private final int[] cells = new int[Places.COUNT];
        private int filled;
        private int whitedOut;

        static int fileCell(int value) {
            return ~value;
        }

        /** Nothing at a place that there is not: a directory with four names is asked for what is in it, too. */
        int kindAt(int place) {
            if (place < 0 || place >= cells.length) {
                return NOTHING;
            }
            return cells[place] < 0 ? FILE : cells[place];
        }

        int valueAt(int place) {
            return kindAt(place) == FILE ? ~cells[place] : 0;
        }

        boolean canHoldIn(int place) {
            return place == Places.ROOT || kindAt(place) == DIRECTORY || kindAt(place) == OPAQUE;
        }

        int entryCount() {
            return filled;
        }

        int whiteoutCount() {
            return whitedOut;
        }

        void set(int place, int cell) {
            if (place <= Places.ROOT || place >= cells.length) {
                return;
            }
            filled += (cell == NOTHING ? 0 : 1) - (cells[place] == NOTHING ? 0 : 1);
            whitedOut += (cell == WHITEOUT ? 1 : 0) - (cells[place] == WHITEOUT ? 1 : 0);
            cells[place] = cell;
        }

        void clearFrom(int place) {
            int first = place;
            int last = place;
            for (int level = Places.depth(place); level <= Places.DEEPEST; level++) {
                for (int cleared = first; cleared <= last; cleared++) {
                    set(cleared, NOTHING);
                }
                first = Places.child(first, 1);
                last = Places.child(last, Places.NAMES);
            }
        }

        void copyFrom(Layer other) {
            System.arraycopy(other.cells, 0, cells, 0, cells.length);
            filled = other.filled;
            whitedOut = other.whitedOut;
        }
    }
}
