import java.util.ArrayList;
import java.util.HashMap;
import java.util.List;
import java.util.Map;
import java.util.NoSuchElementException;

/** The document's terms, word for word and without any care for speed: what OverlayTree is held against. */
final class Reference {
    /** What a mark or a view tells of a path; a file's has a value. */
    record Thing(int sort, int value) {
    }

    static final int FILE = 0;
    static final int DIRECTORY = 1;
    static final int OPAQUE = 2;
    static final int GONE = 3;

    private final List<Map<String, Thing>> layers = new ArrayList<>();

    Reference() {
        layers.add(new HashMap<>());
    }

    /** A path's names as a text, the first one first; null if the number is no path. */
    static String textOf(int path) {
        if (path == 0) {
            return "";
        }
        String turned = new StringBuilder(Integer.toString(path)).reverse().toString();
        return turned.matches("[1-9]{1,4}") ? turned : null;
    }

    private static String parentOf(String path) {
        return path.substring(0, path.length() - 1);
    }

    private static boolean isDirectory(Thing thing) {
        return thing != null && thing.sort == DIRECTORY;
    }

    private Thing seen(String path, int n) {
        if (path.isEmpty()) {
            return new Thing(DIRECTORY, 0);
        }
        if (n == 0 || !isDirectory(seen(parentOf(path), n))) {
            return null;
        }
        Thing mark = layers.get(n - 1).get(path);
        if (mark == null) {
            return shines(parentOf(path), n) ? seen(path, n - 1) : null;
        }
        return switch (mark.sort) {
            case FILE -> mark;
            case GONE -> null;
            default -> new Thing(DIRECTORY, 0);
        };
    }

    private boolean shines(String path, int n) {
        if (path.isEmpty()) {
            return true;
        }
        Thing mark = layers.get(n - 1).get(path);
        return shines(parentOf(path), n) && isDirectory(seen(path, n - 1))
                && (mark == null || mark.sort == DIRECTORY);
    }

    private Thing there(String path) {
        return seen(path, layers.size());
    }

    private Thing seenBelowTop(String path) {
        return seen(path, layers.size() - 1);
    }

    private Map<String, Thing> top() {
        return layers.get(layers.size() - 1);
    }

    private void setMark(String path, int sort, int value) {
        for (int length = 1; length < path.length(); length++) {
            top().putIfAbsent(path.substring(0, length), new Thing(DIRECTORY, 0));
        }
        top().put(path, new Thing(sort, value));
    }

    private void takeAway(String path) {
        top().keySet().removeIf(each -> each.startsWith(path));
        if (seenBelowTop(path) != null) {
            setMark(path, GONE, 0);
        }
    }

    private static String belowRoot(int number) {
        String path = textOf(number);
        if (path == null || path.isEmpty()) {
            throw new IllegalArgumentException();
        }
        return path;
    }

    private String viewed(int number, int n) {
        String path = textOf(number);
        if (path == null || n < 1 || n > layers.size()) {
            throw new IllegalArgumentException();
        }
        return path;
    }

    private Map<String, Thing> layerAt(int layer) {
        if (layer < 0 || layer >= layers.size()) {
            throw new IndexOutOfBoundsException();
        }
        return layers.get(layer);
    }

    private void checkWritable(String path) {
        if (!isDirectory(there(parentOf(path))) || isDirectory(there(path))) {
            throw new IllegalStateException();
        }
    }

    boolean write(int number, int value) {
        String path = belowRoot(number);
        checkWritable(path);
        boolean isNew = there(path) == null;
        setMark(path, FILE, value);
        return isNew;
    }

    void make(int number) {
        String path = belowRoot(number);
        if (!isDirectory(there(parentOf(path))) || there(path) != null) {
            throw new IllegalStateException();
        }
        setMark(path, seenBelowTop(path) != null ? OPAQUE : DIRECTORY, 0);
    }

    private int countThere(String path) {
        if (there(path) == null) {
            return 0;
        }
        int total = 1;
        for (char name = '1'; name <= '9' && path.length() < 4; name++) {
            total += countThere(path + name);
        }
        return total;
    }

    int remove(int number) {
        String path = belowRoot(number);
        if (there(path) == null) {
            throw new NoSuchElementException();
        }
        int total = countThere(path);
        takeAway(path);
        return total;
    }

    void move(int number, int toNumber) {
        String path = belowRoot(number);
        String to = belowRoot(toNumber);
        Thing file = there(path);
        if (file == null || file.sort != FILE) {
            throw new NoSuchElementException();
        }
        checkWritable(to);
        if (!path.equals(to)) {
            takeAway(path);
            setMark(to, FILE, file.value);
        }
    }

    int layer() {
        if (layers.size() == 8) {
            throw new UnsupportedOperationException();
        }
        layers.add(new HashMap<>());
        return layers.size();
    }

    private static boolean hides(Thing mark) {
        return mark != null && mark.sort != DIRECTORY;
    }

    private static boolean isHidden(String path, Map<String, Thing> upper) {
        for (int length = 1; length < path.length(); length++) {
            if (hides(upper.get(path.substring(0, length)))) {
                return true;
            }
        }
        return false;
    }

    int squash(int k) {
        if (k < 0 || k >= layers.size() - 1) {
            throw new IndexOutOfBoundsException();
        }
        Map<String, Thing> lower = layers.get(k);
        Map<String, Thing> upper = layers.get(k + 1);
        Map<String, Thing> both = new HashMap<>();
        lower.forEach((path, mark) -> {
            if (!isHidden(path, upper)) {
                both.put(path, mark);
            }
        });
        upper.forEach((path, mark) -> {
            boolean turns = mark.sort == DIRECTORY && hides(lower.get(path));
            both.put(path, turns ? new Thing(OPAQUE, 0) : mark);
        });
        layers.set(k, both);
        layers.remove(k + 1);
        return layers.size();
    }

    int drop() {
        if (layers.size() == 1) {
            throw new UnsupportedOperationException();
        }
        layers.remove(layers.size() - 1);
        return layers.size();
    }

    int kind(int number, int n) {
        Thing thing = seen(viewed(number, n), n);
        return thing == null ? -1 : thing.sort;
    }

    int value(int number, int n) {
        Thing thing = seen(viewed(number, n), n);
        if (thing == null || thing.sort != FILE) {
            throw new NoSuchElementException();
        }
        return thing.value;
    }

    int names(int number, int n) {
        String path = viewed(number, n);
        if (!isDirectory(seen(path, n))) {
            throw new NoSuchElementException();
        }
        int bits = 0;
        for (int name = 1; name <= 9 && path.length() < 4; name++) {
            bits += seen(path + name, n) == null ? 0 : 1 << name;
        }
        return bits;
    }

    int mark(int layer, int number) {
        Map<String, Thing> marks = layerAt(layer);
        Thing mark = marks.get(belowRoot(number));
        return mark == null ? -1 : mark.sort;
    }

    int marks(int layer) {
        return layerAt(layer).size();
    }

    int count() {
        return layers.size();
    }
}
