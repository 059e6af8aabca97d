import java.util.NoSuchElementException;

/**
 * A tree of files seen through layers that lie on one another: each hides, adds to or takes away
 * from those below; the top one is written to; two neighbours can be made one.
 */
public final class OverlayTree {
    /** There is nothing. */
    public static final int NONE = -1;

    // What a view has at a path and what a layer's mark says share their first numbers.
    private static final int FILE = 0;
    private static final int DIRECTORY = 1;
    private static final int OPAQUE = 2;
    private static final int GONE = 3;

    private static final int ROOT = 0;
    private static final int MOST_LAYERS = 8;
    private static final int MOST_NAMES = 4;
    private static final int LAST_NAME = 9;
    private static final int LAST_PATH = 9999;

    // The roots of the layers, the lowest first; those from count on are null.
    private final Mark[] layers;

    // Always 1 to MOST_LAYERS: layer(), squash() and drop() see to it.
    private int count;

    // One for the root and one for each name of a path, used again by every call.
    private final Sight[] sights;

    public OverlayTree() {
        layers = new Mark[MOST_LAYERS];
        layers[0] = new Mark(DIRECTORY, 0);
        count = 1;
        sights = new Sight[MOST_NAMES + 1];
        for (int depth = 0; depth <= MOST_NAMES; depth++) {
            sights[depth] = new Sight();
        }
    }

    public boolean write(int path, int value) throws IllegalArgumentException, IllegalStateException {
        checkBelowRoot(path);
        checkWritable(path);
        boolean isNew = look(path, count).kindIn(count) != FILE;
        setMark(path, FILE, value);
        return isNew;
    }

    public void make(int path) throws IllegalArgumentException, IllegalStateException {
        checkBelowRoot(path);
        checkParent(path);
        Sight here = look(path, count);
        if (here.kindIn(count) != NONE) {
            throw new IllegalStateException("something is there");
        }
        setMark(path, here.kindIn(count - 1) == NONE ? DIRECTORY : OPAQUE, 0);
    }

    public int remove(int path) throws IllegalArgumentException, NoSuchElementException {
        checkBelowRoot(path);
        if (look(path, count).kindIn(count) == NONE) {
            throw new NoSuchElementException("nothing is there");
        }
        int taken = countSeen(depthOf(path));
        takeAway(path);
        return taken;
    }

    public void move(int path, int to)
            throws IllegalArgumentException, NoSuchElementException, IllegalStateException {
        checkBelowRoot(path);
        checkBelowRoot(to);
        int value = fileValue(path, count);
        checkWritable(to);
        if (path != to) {
            takeAway(path);
            setMark(to, FILE, value);
        }
    }

    public int layer() throws UnsupportedOperationException {
        if (count >= MOST_LAYERS) {
            throw new UnsupportedOperationException("no more layers");
        }
        layers[count] = new Mark(DIRECTORY, 0);
        count++;
        return count;
    }

    public int squash(int k) throws IndexOutOfBoundsException {
        if (k < 0 || k >= count - 1) {
            throw new IndexOutOfBoundsException("no such two layers");
        }
        layOver(layers[k + 1], layers[k], false, 0);
        for (int i = k; i < count - 1; i++) {
            layers[i] = layers[i + 1];
        }
        return loseTop();
    }

    public int drop() throws UnsupportedOperationException {
        if (count <= 1) {
            throw new UnsupportedOperationException("the only layer");
        }
        return loseTop();
    }

    public int kind(int path, int n) throws IllegalArgumentException {
        checkView(path, n);
        return look(path, n).kindIn(n);
    }

    public int value(int path, int n) throws IllegalArgumentException, NoSuchElementException {
        checkView(path, n);
        return fileValue(path, n);
    }

    public int names(int path, int n) throws IllegalArgumentException, NoSuchElementException {
        checkView(path, n);
        if (look(path, n).kindIn(n) != DIRECTORY) {
            throw new NoSuchElementException("no directory");
        }
        return namesSeen(depthOf(path), n);
    }

    public int mark(int layer, int path) throws IndexOutOfBoundsException, IllegalArgumentException {
        checkLayer(layer);
        checkBelowRoot(path);
        Mark mark = layers[layer];
        for (int rest = path; rest > 0 && mark != null; rest /= 10) {
            mark = mark.at(rest % 10);
        }
        return mark == null ? NONE : mark.sort;
    }

    public int marks(int layer) throws IndexOutOfBoundsException {
        checkLayer(layer);
        return countMarks(layers[layer], 0);
    }

    private static boolean isPath(int path) {
        if (path < 0 || path > LAST_PATH) {
            return false;
        }
        for (int rest = path; rest > 0; rest /= 10) {
            if (rest % 10 == 0) {
                return false;
            }
        }
        return true;
    }

    private static int depthOf(int path) {
        int depth = 0;
        for (int rest = path; rest > 0; rest /= 10) {
            depth++;
        }
        return depth;
    }

    // The first name is the lowest digit, so the last one is the highest.
    private static int parentOf(int path) {
        if (path >= 1000) {
            return path % 1000;
        }
        if (path >= 100) {
            return path % 100;
        }
        return path >= 10 ? path % 10 : ROOT;
    }

    private static void checkBelowRoot(int path) {
        if (path == ROOT || !isPath(path)) {
            throw new IllegalArgumentException("no path below the root");
        }
    }

    private void checkView(int path, int n) {
        if (!isPath(path) || n < 1 || n > count) {
            throw new IllegalArgumentException("no path or no such view");
        }
    }

    private void checkLayer(int layer) {
        if (layer < 0 || layer >= count) {
            throw new IndexOutOfBoundsException("no such layer");
        }
    }

    private void checkParent(int path) {
        if (look(parentOf(path), count).kindIn(count) != DIRECTORY) {
            throw new IllegalStateException("the parent is no directory");
        }
    }

    private void checkWritable(int path) {
        checkParent(path);
        if (look(path, count).kindIn(count) == DIRECTORY) {
            throw new IllegalStateException("a directory is there");
        }
    }

    // What is handed back, and the sights of the path's parents, last until the next look.
    private Sight look(int path, int n) {
        Sight here = sights[0];
        here.seeRoot(layers, n);
        int rest = path;
        for (int depth = 1; depth <= MOST_NAMES && rest > 0; depth++) {
            sights[depth].see(here, rest % 10, n);
            here = sights[depth];
            rest /= 10;
        }
        return here;
    }

    private int fileValue(int path, int n) {
        Sight here = look(path, n);
        if (here.kindIn(n) != FILE) {
            throw new NoSuchElementException("no file");
        }
        return here.valueIn(n);
    }

    // The sight at this depth must be a fresh one.
    private int namesSeen(int depth, int n) {
        if (depth < 0 || depth >= MOST_NAMES) {
            return 0;
        }
        int bits = 0;
        for (int name = 1; name <= LAST_NAME; name++) {
            sights[depth + 1].see(sights[depth], name, n);
            if (sights[depth + 1].kindIn(n) != NONE) {
                bits |= 1 << name;
            }
        }
        return bits;
    }

    // Counts what is there at the path of the sight at this depth, and all below it.
    private int countSeen(int depth) {
        if (depth < 0 || depth > MOST_NAMES || sights[depth].kindIn(count) == NONE) {
            return 0;
        }
        int total = 1;
        if (depth < MOST_NAMES && sights[depth].kindIn(count) == DIRECTORY) {
            for (int name = 1; name <= LAST_NAME; name++) {
                sights[depth + 1].see(sights[depth], name, count);
                total += countSeen(depth + 1);
            }
        }
        return total;
    }

    private void setMark(int path, int sort, int value) {
        Mark parent = layers[count - 1];
        int rest = path;
        for (int depth = 1; depth < MOST_NAMES && rest > LAST_NAME; depth++) {
            parent = parent.atOrNew(rest % 10);
            rest /= 10;
        }
        Mark mark = parent.atOrNew(rest);
        mark.sort = sort;
        mark.value = value;
    }

    private void takeAway(int path) {
        clearMarks(path);
        if (look(path, count).kindIn(count - 1) != NONE) {
            setMark(path, GONE, 0);
        }
    }

    private void clearMarks(int path) {
        Mark parent = layers[count - 1];
        int rest = path;
        for (int depth = 1; depth < MOST_NAMES && rest > LAST_NAME && parent != null; depth++) {
            parent = parent.at(rest % 10);
            rest /= 10;
        }
        if (parent != null && parent.at(rest) != null) {
            parent.hang(rest, null);
        }
    }

    private int loseTop() {
        count--;
        layers[count] = null;
        return count;
    }

    /*
     * Makes the upper layer's marks below one path those of both layers. What the lower one has
     * there still turns directories opaque where it is hidden, so the walk goes on below a hiding
     * mark; it asks for the upper marks as they were, not for those that the squash made opaque.
     */
    private static void layOver(Mark upper, Mark lower, boolean hidden, int depth) {
        if (depth >= MOST_NAMES) {
            return;
        }
        for (int name = 1; name <= LAST_NAME; name++) {
            Mark above = upper.at(name);
            Mark below = lower.at(name);
            if (above != null && below != null) {
                boolean hides = above.sort != DIRECTORY;
                if (!hides && below.sort != DIRECTORY) {
                    above.sort = OPAQUE;
                }
                layOver(above, below, hidden || hides, depth + 1);
            } else if (below != null && !hidden) {
                upper.hang(name, below);
            }
        }
    }

    private static int countMarks(Mark mark, int depth) {
        if (depth >= MOST_NAMES) {
            return 0;
        }
        int total = 0;
        for (int name = 1; name <= LAST_NAME; name++) {
            Mark each = mark.at(name);
            if (each != null) {
                total += 1 + countMarks(each, depth + 1);
            }
        }
        return total;
    }

    /**
     * A layer's mark at a path, with its marks below that path: so none stands there without its
     * parents' marks. A layer's root is held as a directory's, but counts as no mark.
     */
    private static final class Mark {
        int sort;
        int value;

        // By name; null as long as there never was one, since most marks are files'.
        private Mark[] below;

        Mark(int sort, int value) {
            this.sort = sort;
            this.value = value;
        }

        Mark at(int name) {
            if (below == null || name < 1 || name > LAST_NAME) {
                return null;
            }
            return below[name];
        }

        Mark atOrNew(int name) {
            Mark found = at(name);
            if (found == null) {
                found = new Mark(DIRECTORY, 0);
                hang(name, found);
            }
            return found;
        }

        void hang(int name, Mark mark) {
            if (name < 1 || name > LAST_NAME) {
                return;
            }
            if (below == null) {
                below = new Mark[LAST_NAME + 1];
            }
            below[name] = mark;
        }
    }

    /** What the views of the lowest 0, 1, 2 .. layers have at one path. */
    private static final class Sight {
        private final int[] kinds;
        private final int[] values;

        // Each layer's mark here, and whether the view of the layers below it shines through it.
        private final Mark[] found;
        private final boolean[] shines;

        Sight() {
            kinds = new int[MOST_LAYERS + 1];
            values = new int[MOST_LAYERS + 1];
            found = new Mark[MOST_LAYERS];
            shines = new boolean[MOST_LAYERS];
        }

        int kindIn(int n) {
            return n < 0 || n > MOST_LAYERS ? NONE : kinds[n];
        }

        int valueIn(int n) {
            return n < 0 || n > MOST_LAYERS ? 0 : values[n];
        }

        void seeRoot(Mark[] layers, int n) {
            kinds[0] = DIRECTORY;
            for (int i = 0; i < n && i < MOST_LAYERS && i < layers.length; i++) {
                kinds[i + 1] = DIRECTORY;
                found[i] = layers[i];
                shines[i] = true;
            }
        }

        void see(Sight parent, int name, int n) {
            kinds[0] = NONE;
            for (int i = 0; i < n && i < MOST_LAYERS; i++) {
                Mark above = parent.found[i];
                found[i] = above == null ? null : above.at(name);
                addLayer(parent, i);
            }
        }

        private void addLayer(Sight parent, int i) {
            if (i < 0 || i >= MOST_LAYERS) {
                return;
            }
            Mark mark = found[i];
            kinds[i + 1] = NONE;
            if (parent.kinds[i + 1] == DIRECTORY) {
                if (mark != null) {
                    kinds[i + 1] = mark.sort == GONE ? NONE : mark.sort == FILE ? FILE : DIRECTORY;
                    values[i + 1] = mark.value;
                } else if (parent.shines[i]) {
                    kinds[i + 1] = kinds[i];
                    values[i + 1] = values[i];
                }
            }
            shines[i] = parent.shines[i] && kinds[i] == DIRECTORY
                    && (mark == null || mark.sort == DIRECTORY);
        }
    }
}
