import java.util.List;

/** A test for each sentence of the document's term of squashing, for every two marks that can meet. */
public final class SquashingTest {
    private static final int NONE = OverlayTree.NONE;
    private static final int FILE = 0;
    private static final int DIRECTORY = 1;
    private static final int OPAQUE = 2;
    private static final int GONE = 3;

    private SquashingTest() {
    }

    public static void main(String[] args) {
        Check.sentence("SQUASHING layers k and k + 1 makes them one", SquashingTest::makesOne);
        Check.sentence("a path gets the mark of k + 1, if it has one there", SquashingTest::takesUpperMark);
        Check.sentence("(but an opaque one for a directory's, where k has a file's, an opaque one or gone)",
                SquashingTest::makesOpaque);
        Check.sentence("otherwise that of k", SquashingTest::keepsLowerMark);
        Check.sentence("unless a path above it has a file's, an opaque mark or gone in k + 1",
                SquashingTest::hidesLowerMark);
        Check.sentence("two neighbours can be made one, and all is seen as before", SquashingTest::keepsViews);
        Check.end();
    }

    /**
     * Layers 1 and 2 over a directory 1 with a file 11, with these two marks at the path 1. Layer 1 puts
     * 21 into its directory, layer 2 puts 91 into its own.
     */
    private static Asker twoMarks(int lower, int upper) {
        Asker x = new Asker();
        x.make(1);
        x.write(11, 1);
        x.layer();
        if (lower == FILE || lower == OPAQUE || lower == GONE) {
            x.remove(1);
        }
        if (lower == FILE) {
            x.write(1, 10);
        }
        if (lower == OPAQUE) {
            x.make(1);
        }
        if (lower == OPAQUE || lower == DIRECTORY) {
            x.write(21, 10);
        }
        x.layer();
        addUpperMark(x, lower, upper);
        x.mark(1, 1, lower);
        x.mark(2, 1, upper);
        return x;
    }

    private static void addUpperMark(Asker x, int lower, int upper) {
        boolean needsSomethingBelow = lower == GONE && (upper == OPAQUE || upper == GONE);
        if (needsSomethingBelow) {
            x.write(1, 5);
            x.layer();
        }
        if (upper == OPAQUE || upper == GONE || upper == FILE && lower != GONE && lower != FILE) {
            x.remove(1);
        }
        if (upper == FILE) {
            x.write(1, 20);
        }
        if (upper == OPAQUE || upper == DIRECTORY && lower == GONE) {
            x.make(1);
        }
        if (upper == OPAQUE || upper == DIRECTORY) {
            x.write(91, 20);
        }
        if (needsSomethingBelow) {
            x.squash(2, 3);
        }
    }

    private static void makesOne() {
        Asker x = new Asker();
        x.write(1, 1);
        x.layer();
        x.write(2, 2);
        x.layer();
        x.write(9, 9);
        x.squash(0, 2);
        x.marks(0, 2);
        x.mark(0, 1, FILE);
        x.mark(0, 2, FILE);
        x.marks(1, 1);
        x.mark(1, 9, FILE);
        x.marksFails(2);
        x.write(3, 3);
        x.mark(1, 3, FILE);
        x.squash(0, 1);
        x.marks(0, 4);
        x.write(4, 4);
        x.mark(0, 4, FILE);
        emptyLayers();
    }

    private static void emptyLayers() {
        Asker x = new Asker();
        x.layer();
        x.squash(0, 1);
        x.marks(0, 0);
        x.write(1, 1);
        x.layer();
        x.squash(0, 1);
        x.marks(0, 1);
        x.value(1, 1, 1);
    }

    private static void takesUpperMark() {
        for (int lower = NONE; lower <= GONE; lower++) {
            Asker x = twoMarks(lower, FILE);
            x.squash(1, 2);
            x.mark(1, 1, FILE);
            x.value(1, 2, 20);
            x.marks(1, 1);
            x = twoMarks(lower, OPAQUE);
            x.squash(1, 2);
            x.mark(1, 1, OPAQUE);
            x.mark(1, 91, FILE);
            x.marks(1, 2);
            x = twoMarks(lower, GONE);
            x.squash(1, 2);
            x.mark(1, 1, GONE);
            x.marks(1, 1);
        }
        Asker x = twoMarks(NONE, DIRECTORY);
        x.squash(1, 2);
        x.mark(1, 1, DIRECTORY);
        x.mark(1, 91, FILE);
        x.marks(1, 2);
        x = twoMarks(DIRECTORY, DIRECTORY);
        x.squash(1, 2);
        x.mark(1, 1, DIRECTORY);
        x.marks(1, 3);
        inTheLowestLayer();
    }

    private static void inTheLowestLayer() {
        Asker x = new Asker();
        x.make(1, 2, 9);
        x.write(11, 1);
        x.write(12, 1);
        x.layer();
        x.remove(1);
        x.remove(2);
        x.make(2);
        x.remove(9);
        x.write(9, 2);
        x.squash(0, 1);
        x.mark(0, 1, GONE);
        x.mark(0, 2, OPAQUE);
        x.mark(0, 9, FILE);
        x.marks(0, 3);
    }

    private static void makesOpaque() {
        Asker x = twoMarks(OPAQUE, DIRECTORY);
        x.squash(1, 2);
        x.mark(1, 1, OPAQUE);
        x.mark(1, 21, FILE);
        x.mark(1, 91, FILE);
        x.marks(1, 3);
        x.names(1, 2, 1 << 2 | 1 << 9);
        x = twoMarks(GONE, DIRECTORY);
        x.squash(1, 2);
        x.mark(1, 1, OPAQUE);
        x.mark(1, 91, FILE);
        x.marks(1, 2);
        x.names(1, 2, 1 << 9);
        overFile();
        overLongestPaths();
        notOverOthers();
    }

    /** A directory's mark comes to lie over a file's only below an opaque one, and by squashing. */
    private static void overFile() {
        Asker x = new Asker();
        x.make(1);
        x.layer();
        x.write(11, 10);
        x.make(21);
        x.layer();
        x.remove(1);
        x.layer();
        x.make(1, 11, 21, 91);
        x.squash(2, 3);
        x.mark(1, 11, FILE);
        x.mark(2, 11, DIRECTORY);
        x.mark(2, 21, DIRECTORY);
        x.squash(1, 2);
        x.mark(1, 1, OPAQUE);
        x.mark(1, 11, OPAQUE);
        x.mark(1, 21, DIRECTORY);
        x.mark(1, 91, DIRECTORY);
        x.marks(1, 4);
    }

    private static void overLongestPaths() {
        Asker x = new Asker();
        x.make(1, 11, 111, 1111, 9111);
        x.layer();
        x.remove(1111);
        x.remove(9111);
        x.layer();
        x.make(1111, 9111);
        x.mark(2, 1111, DIRECTORY);
        x.mark(2, 9111, DIRECTORY);
        x.squash(1, 2);
        x.mark(1, 1111, OPAQUE);
        x.mark(1, 9111, OPAQUE);
        x.mark(1, 111, DIRECTORY);
        x.mark(1, 11, DIRECTORY);
        x.mark(1, 1, DIRECTORY);
    }

    private static void notOverOthers() {
        Asker x = twoMarks(DIRECTORY, DIRECTORY);
        x.squash(1, 2);
        x.mark(1, 1, DIRECTORY);
        x.names(1, 2, 1 << 1 | 1 << 2 | 1 << 9);
        x = twoMarks(NONE, DIRECTORY);
        x.squash(1, 2);
        x.mark(1, 1, DIRECTORY);
        x.names(1, 2, 1 << 1 | 1 << 9);
    }

    private static void keepsLowerMark() {
        int[] marksDue = {0, 1, 2, 2, 1};
        for (int lower = NONE; lower <= GONE; lower++) {
            Asker x = twoMarks(lower, NONE);
            x.squash(1, 2);
            x.mark(1, 1, lower);
            x.mark(1, 21, lower == DIRECTORY || lower == OPAQUE ? FILE : NONE);
            x.marks(1, marksDue[lower + 1]);
        }
        Asker x = twoMarks(FILE, NONE);
        x.squash(1, 2);
        x.value(1, 2, 10);
        for (int lower : new int[] {DIRECTORY, OPAQUE}) {
            x = twoMarks(lower, DIRECTORY);
            x.squash(1, 2);
            x.mark(1, 21, FILE);
            x.value(21, 2, 10);
        }
        belowDirectories();
    }

    private static void belowDirectories() {
        Asker x = new Asker();
        x.make(1, 11, 111);
        x.write(1111, 1);
        x.layer();
        x.write(2111, 2);
        x.remove(1111);
        x.make(3111);
        x.layer();
        x.write(9111, 3);
        x.squash(1, 2);
        x.mark(1, 1111, GONE);
        x.mark(1, 2111, FILE);
        x.mark(1, 3111, DIRECTORY);
        x.mark(1, 9111, FILE);
        x.marks(1, 7);
        x.value(2111, 2, 2);
        x.names(111, 2, 1 << 2 | 1 << 3 | 1 << 9);
    }

    private static void hidesLowerMark() {
        for (int upper : new int[] {FILE, OPAQUE, GONE}) {
            for (int lower : new int[] {DIRECTORY, OPAQUE}) {
                Asker x = twoMarks(lower, upper);
                x.mark(1, 21, FILE);
                x.squash(1, 2);
                x.mark(1, 21, NONE);
                x.kind(21, 2, NONE);
            }
            hiddenFarBelow(upper, 1);
            hiddenFarBelow(upper, 11);
            hiddenFarBelow(upper, 111);
        }
        notBesideHidingMarks();
        belowOpaqueDirectories();
    }

    /** The hiding mark is set at a path one to three names above the marks that it hides. */
    private static void hiddenFarBelow(int upper, int path) {
        Asker x = new Asker();
        x.make(1, 11, 111);
        x.write(1111, 1);
        x.layer();
        x.write(1111, 2);
        x.write(2111, 2);
        x.make(9111);
        x.layer();
        x.remove(path);
        if (upper == FILE) {
            x.write(path, 3);
        }
        if (upper == OPAQUE) {
            x.make(path);
        }
        x.squash(1, 2);
        x.mark(1, path, upper);
        for (int each : new int[] {1111, 2111, 9111}) {
            x.mark(1, each, NONE);
            x.kind(each, 2, NONE);
        }
        x.marks(1, path == 1 ? 1 : path == 11 ? 2 : 3);
        x.value(1111, 1, 1);
    }

    private static void notBesideHidingMarks() {
        Asker x = new Asker();
        x.make(1, 2, 11, 21);
        x.layer();
        x.write(12, 2);
        x.write(111, 3);
        x.write(121, 4);
        x.layer();
        x.remove(11);
        x.squash(1, 2);
        x.mark(1, 111, NONE);
        x.mark(1, 12, FILE);
        x.mark(1, 121, FILE);
        x.marks(1, 6);
    }

    /** Marks of k + 1 between the hiding one and the hidden path let nothing through. */
    private static void belowOpaqueDirectories() {
        Asker x = new Asker();
        x.make(1);
        x.layer();
        x.make(11, 111);
        x.write(1111, 1);
        x.write(211, 1);
        x.layer();
        x.remove(1);
        x.layer();
        x.make(1, 11, 111);
        x.squash(2, 3);
        x.mark(2, 11, DIRECTORY);
        x.mark(2, 111, DIRECTORY);
        x.squash(1, 2);
        x.mark(1, 1, OPAQUE);
        x.mark(1, 11, DIRECTORY);
        x.mark(1, 111, DIRECTORY);
        x.mark(1, 211, NONE);
        x.mark(1, 1111, NONE);
        x.marks(1, 3);
        x.names(111, 2, 0);
    }

    private static void keepsViews() {
        for (int k = 0; k < 7; k++) {
            Asker x = eightLayers();
            List<List<Long>> views = x.views();
            views.remove(k);
            x.squash(k, 7);
            Check.holds("squash(" + k + ") keeps the other views", x.views().equals(views));
        }
        for (int lower = NONE; lower <= GONE; lower++) {
            for (int upper = NONE; upper <= GONE; upper++) {
                if (lower != FILE || upper != DIRECTORY) {
                    sameViews(twoMarks(lower, upper));
                }
            }
        }
    }

    private static void sameViews(Asker x) {
        List<List<Long>> views = x.views();
        views.remove(1);
        x.squash(1, 2);
        Check.holds("squash(1) keeps the other views", x.views().equals(views));
        views.remove(0);
        x.squash(0, 1);
        Check.holds("squash(0) keeps the view of all", x.views().equals(views));
    }

    private static Asker eightLayers() {
        Asker x = new Asker();
        x.make(1, 11, 111, 2, 9);
        x.write(1111, 1);
        x.write(12, 2);
        x.write(19, 3);
        x.layer();
        x.remove(1);
        x.write(19, 4);
        x.layer();
        x.make(1, 11);
        x.write(111, 5);
        x.remove(12);
        x.layer();
        x.remove(2);
        x.write(2, 6);
        x.remove(111);
        x.make(111);
        x.layer();
        x.move(2, 1111);
        x.remove(9);
        x.make(9);
        x.layer();
        x.make(2);
        x.write(29, 7);
        x.layer();
        x.remove(11);
        x.make(11);
        x.remove(9);
        x.layer();
        x.make(9, 111);
        x.write(12, 8);
        return x;
    }
}
