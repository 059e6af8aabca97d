import java.util.List;
import java.util.NoSuchElementException;

/** A test for each sentence of the document's terms, at the boundaries that the sentence names. */
public final class TermsTest {
    private static final int NONE = OverlayTree.NONE;
    private static final int FILE = 0;
    private static final int DIRECTORY = 1;
    private static final int OPAQUE = 2;
    private static final int GONE = 3;

    private TermsTest() {
    }

    public static void main(String[] args) {
        Check.sentence("NONE = -1: There is nothing", TermsTest::none);
        Check.sentence("An object is used for at most 512 calls after it has been made", TermsTest::manyCalls);
        paths();
        layersAndMarks();
        views();
        writing();
        Check.sentence("A call that throws changes nothing", TermsTest::refusedCalls);
        Check.end();
    }

    private static void paths() {
        Check.sentence("A PATH is up to four NAMES", TermsTest::upToFourNames);
        Check.sentence("NAMES, 1 .. 9", TermsTest::firstAndLastName);
        Check.sentence("told as a number: n1 + 10 n2 + 100 n3 + 1000 n4", TermsTest::orderOfNames);
        Check.sentence("told as a number (one below 0, or too large for four names)", TermsTest::numbersOutside);
        Check.sentence("0 standing for none, behind a 0 only 0", TermsTest::behindAZero);
        Check.sentence("the path 0 is the ROOT", TermsTest::root);
        Check.sentence("A path's PARENT is it without its last name", TermsTest::parent);
    }

    private static void layersAndMarks() {
        Check.sentence("There are one to eight LAYERS", TermsTest::oneToEightLayers);
        Check.sentence("LAYERS, 0 the lowest one", TermsTest::lowestLayer);
        Check.sentence("Each has MARKS at some paths but the root", TermsTest::noMarkAtTheRoot);
        Check.sentence("a FILE with a value (an int)", TermsTest::values);
        Check.sentence("A path with a mark has a parent that is the root or has a directory's mark (opaque or not) "
                + "in the same layer", TermsTest::parentsHaveMarks);
    }

    private static void views() {
        Check.sentence("Of no layers: the root is a directory, nothing else is there", TermsTest::viewOfNoLayers);
        Check.sentence("With one layer more: the root is a directory", TermsTest::rootInEveryView);
        Check.sentence("of another path, if its parent is no directory in the new view, nothing",
                TermsTest::belowNoDirectory);
        Check.sentence("otherwise by the layer's mark: a file; a directory (opaque or not); gone nothing",
                TermsTest::viewByMark);
        Check.sentence("without a mark what the view before has there, if it SHINES through at the parent",
                TermsTest::shinesThroughAllLayers);
        Check.sentence("if it SHINES through at the parent, otherwise nothing", TermsTest::doesNotShine);
        Check.sentence("It shines through at the root", TermsTest::shinesAtTheRoot);
        Check.sentence("at another path if it does so at its parent", TermsTest::shinesOnlyIfAtTheParent);
        Check.sentence("has a directory there itself", TermsTest::shinesOnlyFromDirectory);
        Check.sentence("the layer has no mark there or a directory's that is not opaque", TermsTest::shinesByMark);
        Check.sentence("What is THERE is the view of all layers", TermsTest::there);
    }

    private static void writing() {
        Check.sentence("Writing is done in the TOP layer", TermsTest::topLayer);
        Check.sentence("all parents of the path but the root get a directory's mark", TermsTest::parentsGetMarks);
        Check.sentence("if they have none in it", TermsTest::parentsKeepMarks);
        Check.sentence("A directory that is made gets an opaque mark if the view of the layers below the top one "
                + "has something at its path", TermsTest::opaqueOverSomething);
        Check.sentence("at its path, otherwise a directory's", TermsTest::directoryOverNothing);
        Check.sentence("When a path is taken away, all marks at it and below it in the top layer go",
                TermsTest::marksGo);
        Check.sentence("then it gets the mark gone, if the view of the layers below the top one has something there",
                TermsTest::markGone);
    }

    /** Directories at the paths of one to four names 1, so that a number taken for a path finds something. */
    private static Asker chain() {
        Asker x = new Asker();
        x.make(1, 11, 111, 1111);
        x.write(2, 1);
        return x;
    }

    private static void noPath(Asker x, int path) {
        x.writeFails(path, IllegalArgumentException.class);
        x.makeFails(path, IllegalArgumentException.class);
        x.removeFails(path, IllegalArgumentException.class);
        x.moveFails(path, 9, IllegalArgumentException.class);
        x.moveFails(2, path, IllegalArgumentException.class);
        x.kindFails(path, 1);
        x.valueFails(path, 1, IllegalArgumentException.class);
        x.namesFails(path, 1, IllegalArgumentException.class);
        x.markFails(0, path, IllegalArgumentException.class);
    }

    private static void none() {
        Check.same("NONE", OverlayTree.NONE, -1);
        Asker x = new Asker();
        x.kind(1, 1, -1);
        x.mark(0, 1, -1);
    }

    private static void manyCalls() {
        Asker x = new Asker();
        for (int i = 1; i <= 63; i++) {
            x.make(1, 11);
            x.write(111, i);
            x.move(111, 2);
            x.layer(2);
            x.remove(1, 2);
            x.squash(0, 1);
            x.remove(2, 1);
        }
        x.make(1, 11);
        x.write(111, 64);
        x.layer(2);
        x.layer(3);
        x.drop(2);
        x.write(111, 65, false);
        Check.same("the calls before the last one", x.calls(), 511);
        x.value(111, 2, 65);
        manyMarks().marks(0, 511);
        manyMarks().remove(5, 91);
        manyMarks().names(5, 1, 0x3FE);
        manyMarks().value(995, 1, 995);
        manyMarks().layer(2);
    }

    /** 511 calls, and a mark for each. */
    private static Asker manyMarks() {
        Asker x = new Asker();
        for (int a = 1; a <= 6; a++) {
            x.make(a);
            for (int b = 1; b <= 9 && x.calls() < 511; b++) {
                x.make(10 * b + a);
                for (int c = 1; c <= 9 && x.calls() < 511; c++) {
                    int path = 100 * c + 10 * b + a;
                    x.write(path, path);
                }
            }
        }
        Check.same("the calls before the last one", x.calls(), 511);
        return x;
    }

    private static void upToFourNames() {
        Asker x = chain();
        for (int path : new int[] {1, 11, 111, 1111}) {
            x.kind(path, 1, DIRECTORY);
            x.mark(0, path, DIRECTORY);
        }
        for (int path : new int[] {11111, 21111, 91111, 12345, 99999}) {
            noPath(x, path);
        }
        x.names(1111, 1, 0);
    }

    private static void firstAndLastName() {
        Asker x = new Asker();
        x.make(1, 9, 11, 91, 19, 99, 111, 911, 199, 999);
        x.write(1111, 1, true);
        x.write(9111, 2, true);
        x.write(1999, 3, true);
        x.write(9999, 4, true);
        for (int path : new int[] {0, 1, 9, 11, 99, 111, 999}) {
            x.names(path, 1, 1 << 1 | 1 << 9);
        }
        x.value(1111, 1, 1);
        x.value(9111, 1, 2);
        x.value(1999, 1, 3);
        x.value(9999, 1, 4);
        x.marks(0, 14);
    }

    private static void orderOfNames() {
        Asker x = new Asker();
        x.make(1, 21, 321);
        x.write(4321, 5, true);
        x.names(0, 1, 1 << 1);
        x.names(1, 1, 1 << 2);
        x.names(21, 1, 1 << 3);
        x.names(321, 1, 1 << 4);
        x.value(4321, 1, 5);
        x.kind(1234, 1, NONE);
        x.kind(12, 1, NONE);
        x.writeFails(1234, IllegalStateException.class);
    }

    private static void numbersOutside() {
        int[] outside = {
            -1, -9, -11, -1111, Integer.MIN_VALUE, Integer.MIN_VALUE + 1, 10000, 10001, 11111, 65537, 65547,
            111111, Integer.MAX_VALUE
        };
        for (int number : outside) {
            noPath(chain(), number);
        }
        Asker x = chain();
        x.write(9, 9, true);
        x.kind(9999, 1, NONE);
        x.kind(1, 1, DIRECTORY);
    }

    private static void behindAZero() {
        int[] withHoles = {
            10, 20, 90, 100, 110, 120, 1000, 1010, 1100, 1110, 101, 202, 909, 1001, 1011, 1101, 9009, 9099, 9909
        };
        for (int number : withHoles) {
            noPath(chain(), number);
        }
        Asker x = chain();
        x.kind(1, 1, DIRECTORY);
        x.kind(11, 1, DIRECTORY);
        x.kind(111, 1, DIRECTORY);
    }

    private static void root() {
        Asker x = new Asker();
        x.kind(0, 1, DIRECTORY);
        x.names(0, 1, 0);
        x.write(1, 1, true);
        x.names(0, 1, 1 << 1);
        x.writeFails(0, IllegalArgumentException.class);
        x.makeFails(0, IllegalArgumentException.class);
        x.removeFails(0, IllegalArgumentException.class);
        x.moveFails(0, 2, IllegalArgumentException.class);
        x.moveFails(1, 0, IllegalArgumentException.class);
        x.markFails(0, 0, IllegalArgumentException.class);
        x.valueFails(0, 1, NoSuchElementException.class);
    }

    /** Neither the names in another order nor those without the last two are the parent. */
    private static void parent() {
        Asker x = new Asker();
        x.make(2);
        x.writeFails(21, IllegalStateException.class);
        x.writeFails(312, IllegalStateException.class);
        x.make(12);
        x.writeFails(321, IllegalStateException.class);
        x.writeFails(123, IllegalStateException.class);
        x.writeFails(4312, IllegalStateException.class);
        x.make(312);
        x.writeFails(4321, IllegalStateException.class);
        x.writeFails(2134, IllegalStateException.class);
        x.write(4312, 1, true);
        x.layer();
        x.write(4312, 2, false);
        x.mark(1, 312, DIRECTORY);
        x.mark(1, 12, DIRECTORY);
        x.mark(1, 2, DIRECTORY);
        x.marks(1, 4);
    }

    private static void oneToEightLayers() {
        Asker x = new Asker();
        x.marks(0, 0);
        x.marksFails(1);
        x.dropFails();
        for (int n = 2; n <= 8; n++) {
            x.layer(n);
            x.marks(n - 1, 0);
        }
        x.layerFails();
        x.marksFails(8);
        x.kind(0, 8, DIRECTORY);
        x.kindFails(0, 9);
        for (int n = 7; n >= 1; n--) {
            x.drop(n);
            x.marksFails(n);
        }
        x.dropFails();
    }

    private static void lowestLayer() {
        Asker x = new Asker();
        x.write(1, 5);
        x.layer();
        x.write(2, 6);
        x.mark(0, 1, FILE);
        x.mark(0, 2, NONE);
        x.mark(1, 1, NONE);
        x.mark(1, 2, FILE);
        x.kind(1, 1, FILE);
        x.kind(2, 1, NONE);
        x.drop();
        x.mark(0, 1, FILE);
        x.mark(0, 2, NONE);
    }

    private static void noMarkAtTheRoot() {
        Asker x = new Asker();
        x.marks(0, 0);
        x.make(1);
        x.write(11, 1);
        x.marks(0, 2);
        x.markFails(0, 0, IllegalArgumentException.class);
        x.layer();
        x.marks(1, 0);
        x.remove(1);
        x.marks(1, 1);
        x.markFails(1, 0, IllegalArgumentException.class);
    }

    private static void values() {
        int[] edges = {
            Integer.MIN_VALUE, Integer.MIN_VALUE + 1, -65536, -2, -1, 0, 1, 128, 32768, 65536, Integer.MAX_VALUE - 1,
            Integer.MAX_VALUE
        };
        for (int value : edges) {
            Asker x = new Asker();
            x.write(1, value, true);
            x.value(1, 1, value);
            x.layer();
            x.value(1, 2, value);
            x.move(1, 9);
            x.value(9, 2, value);
            x.squash(0);
            x.value(9, 1, value);
            x.write(9, 7, false);
            x.write(9, value, false);
            x.value(9, 1, value);
            x.kind(9, 1, FILE);
            x.mark(0, 9, FILE);
        }
    }

    /** After each way in which marks come about or go, at the longest paths too. */
    private static void parentsHaveMarks() {
        Asker x = new Asker();
        x.make(1, 11, 111, 1111);
        x.write(2111, 1);
        x.write(9111, 2);
        marksAreHeld(x);
        x.layer();
        x.remove(2111);
        marksAreHeld(x);
        x.layer();
        x.move(9111, 2);
        x.remove(11);
        marksAreHeld(x);
        x.make(11, 111);
        x.move(2, 1111);
        marksAreHeld(x);
        x.layer();
        x.remove(1);
        x.write(1, 3);
        marksAreHeld(x);
        x.layer();
        x.remove(1);
        x.make(1, 11);
        x.write(911, 4);
        marksAreHeld(x);
        for (int k : new int[] {2, 2, 0, 0}) {
            x.squash(k);
            marksAreHeld(x);
        }
    }

    private static void marksAreHeld(Asker x) {
        Check.holds("after " + x.calls() + " calls the parents of all marks have a directory's", x.parentsHaveMarks());
    }

    private static void viewOfNoLayers() {
        Asker x = new Asker();
        x.kindFails(0, 0);
        x.make(1, 11);
        x.mark(0, 1, DIRECTORY);
        x.mark(0, 11, DIRECTORY);
        x.write(2, 1);
        x.move(2, 21);
        x.mark(0, 2, NONE);
        x.remove(21, 1);
        x.mark(0, 21, NONE);
        x.remove(1, 2);
        x.mark(0, 1, NONE);
        x.marks(0, 0);
        x.make(1);
        x.mark(0, 1, DIRECTORY);
        x.names(1, 1, 0);
    }

    private static void rootInEveryView() {
        Asker x = new Asker();
        x.kind(0, 1, DIRECTORY);
        for (int n = 2; n <= 8; n++) {
            x.write(1, n, true);
            x.layer(n);
            x.kind(0, n, DIRECTORY);
            x.remove(1, 1);
            x.kind(0, n, DIRECTORY);
            x.names(0, n, 0);
        }
    }

    private static void belowNoDirectory() {
        Asker x = new Asker();
        x.make(1, 11, 111);
        x.write(1111, 5);
        x.layer();
        x.remove(1);
        x.write(1, 6);
        x.layer();
        x.remove(1);
        x.layer();
        x.make(1);
        int[] kinds = {DIRECTORY, FILE, NONE, DIRECTORY};
        for (int n = 1; n <= 4; n++) {
            x.kind(1, n, kinds[n - 1]);
            x.kind(11, n, n == 1 ? DIRECTORY : NONE);
            x.kind(111, n, n == 1 ? DIRECTORY : NONE);
            x.kind(1111, n, n == 1 ? FILE : NONE);
            x.kind(2111, n, NONE);
            x.kind(22, n, NONE);
        }
        belowGone();
    }

    private static void belowGone() {
        Asker x = new Asker();
        x.make(1, 11, 111);
        x.write(1111, 5);
        x.layer();
        x.remove(111);
        x.kind(11, 2, DIRECTORY);
        x.kind(111, 2, NONE);
        x.kind(1111, 2, NONE);
        x.remove(11);
        x.kind(111, 2, NONE);
        x.kind(1111, 2, NONE);
        x.kind(1111, 1, FILE);
    }

    private static void viewByMark() {
        Asker x = new Asker();
        x.write(1, 1);
        x.make(2, 9);
        x.layer();
        x.write(1, 7);
        x.remove(2);
        x.remove(9);
        x.make(9, 3);
        int[] paths = {1, 2, 3, 9};
        int[] marks = {FILE, GONE, DIRECTORY, OPAQUE};
        int[] kinds = {FILE, NONE, DIRECTORY, DIRECTORY};
        for (int i = 0; i < paths.length; i++) {
            x.mark(1, paths[i], marks[i]);
            x.kind(paths[i], 2, kinds[i]);
        }
        x.value(1, 1, 1);
        x.value(1, 2, 7);
        x.layer();
        x.write(2, 8);
        x.remove(3);
        x.remove(9);
        x.write(9, 9);
        x.value(2, 3, 8);
        x.kind(3, 3, NONE);
        x.value(9, 3, 9);
        x.kind(9, 2, DIRECTORY);
    }

    private static void shinesThroughAllLayers() {
        Asker x = new Asker();
        x.make(1, 11, 111);
        x.write(1111, 5);
        for (int n = 2; n <= 8; n++) {
            x.layer(n);
            x.value(1111, n, 5);
            x.names(111, n, 1 << 1);
        }
        Asker y = new Asker();
        y.make(1, 11, 111);
        y.write(1111, 5);
        for (int n = 2; n <= 8; n++) {
            y.layer(n);
            y.write(1000 * n + 111, n);
            y.mark(n - 1, 111, DIRECTORY);
            y.value(1111, n, 5);
            y.value(2111, n, 2);
        }
        y.names(111, 8, 0x1FE);
    }

    private static void doesNotShine() {
        Asker x = new Asker();
        x.make(1, 11);
        x.write(111, 5);
        x.layer();
        x.remove(1);
        x.make(1);
        x.mark(1, 1, OPAQUE);
        x.layer();
        for (int n = 2; n <= 3; n++) {
            x.kind(1, n, DIRECTORY);
            x.names(1, n, 0);
            x.kind(11, n, NONE);
            x.kind(111, n, NONE);
        }
        x.kind(111, 1, FILE);
    }

    private static void shinesAtTheRoot() {
        Asker x = new Asker();
        x.write(1, 1);
        x.make(9);
        x.layer();
        x.write(2, 2);
        x.value(1, 2, 1);
        x.kind(9, 2, DIRECTORY);
        x.names(0, 2, 1 << 1 | 1 << 2 | 1 << 9);
        x.remove(1);
        x.names(0, 2, 1 << 2 | 1 << 9);
    }

    /** By squashing a directory's mark comes to lie below an opaque one, over a directory of the view before. */
    private static void shinesOnlyIfAtTheParent() {
        Asker x = new Asker();
        x.make(1, 11, 111);
        x.write(1111, 5);
        x.layer();
        x.remove(1);
        x.layer();
        x.make(1, 11, 111);
        x.squash(1, 2);
        x.mark(1, 1, OPAQUE);
        x.mark(1, 11, DIRECTORY);
        x.mark(1, 111, DIRECTORY);
        x.names(11, 2, 1 << 1);
        x.names(111, 2, 0);
        x.kind(1111, 2, NONE);
        x.kind(1111, 1, FILE);
    }

    private static void shinesOnlyFromDirectory() {
        Asker x = new Asker();
        x.make(1);
        x.write(11, 5);
        x.layer();
        x.remove(1);
        x.layer();
        x.make(1, 11, 21, 2);
        x.squash(1, 2);
        x.mark(1, 11, DIRECTORY);
        x.mark(1, 21, DIRECTORY);
        x.mark(1, 2, DIRECTORY);
        x.kind(11, 1, FILE);
        x.kind(21, 1, NONE);
        x.kind(2, 1, NONE);
        for (int path : new int[] {11, 21, 2}) {
            x.kind(path, 2, DIRECTORY);
            x.names(path, 2, 0);
        }
    }

    private static void shinesByMark() {
        Asker x = new Asker();
        x.make(1, 2, 9);
        x.write(11, 1);
        x.write(12, 2);
        x.write(19, 9);
        x.layer();
        x.write(22, 3);
        x.remove(9);
        x.make(9);
        x.mark(1, 1, NONE);
        x.mark(1, 2, DIRECTORY);
        x.mark(1, 9, OPAQUE);
        x.value(11, 2, 1);
        x.value(12, 2, 2);
        x.kind(19, 2, NONE);
        x.names(1, 2, 1 << 1);
        x.names(2, 2, 1 << 1 | 1 << 2);
        x.names(9, 2, 0);
    }

    private static void there() {
        Asker x = new Asker();
        x.make(1);
        x.write(11, 1);
        x.write(2, 2);
        x.layer();
        x.remove(11);
        x.remove(2);
        x.make(9);
        x.layer();
        x.removeFails(11, NoSuchElementException.class);
        x.moveFails(2, 21, NoSuchElementException.class);
        x.makeFails(1, IllegalStateException.class);
        x.makeFails(9, IllegalStateException.class);
        x.writeFails(1, IllegalStateException.class);
        x.write(11, 3, true);
        x.write(19, 4, true);
        x.make(2);
        x.remove(2, 1);
        x.remove(9, 2);
        x.remove(1, 2);
    }

    private static void topLayer() {
        Asker x = new Asker();
        x.make(1);
        x.write(11, 1);
        x.write(2, 2);
        x.layer();
        List<Long> before = x.state();
        x.layer(3);
        x.write(11, 3);
        x.write(21, 4);
        x.make(9);
        x.remove(2);
        x.move(21, 2);
        x.remove(1);
        x.marks(0, 3);
        x.marks(1, 0);
        x.marks(2, 3);
        x.value(11, 1, 1);
        x.value(11, 2, 1);
        x.drop(2);
        Check.holds("without the top layer all is as before it came", x.state().equals(before));
    }

    private static void parentsGetMarks() {
        Asker x = new Asker();
        x.make(1, 11, 111);
        x.write(1111, 5);
        x.write(2, 6);
        x.layer(2);
        x.write(9111, 1);
        parentsMarked(x, 9111, FILE);
        x.marks(1, 4);
        x.drop(1);
        x.layer(2);
        x.make(9111);
        parentsMarked(x, 9111, DIRECTORY);
        x.marks(1, 4);
        x.drop(1);
        x.layer(2);
        x.remove(1111);
        parentsMarked(x, 1111, GONE);
        x.marks(1, 4);
        x.drop(1);
        x.layer(2);
        x.move(1111, 2);
        parentsMarked(x, 1111, GONE);
        x.mark(1, 2, FILE);
        x.marks(1, 5);
        x.drop(1);
        x.layer(2);
        x.move(2, 2111);
        parentsMarked(x, 2111, FILE);
        x.mark(1, 2, GONE);
        x.marks(1, 5);
    }

    private static void parentsMarked(Asker x, int path, int mark) {
        x.mark(1, path, mark);
        x.mark(1, 111, DIRECTORY);
        x.mark(1, 11, DIRECTORY);
        x.mark(1, 1, DIRECTORY);
    }

    private static void parentsKeepMarks() {
        Asker x = new Asker();
        x.make(1, 11);
        x.write(111, 1);
        x.layer();
        x.remove(1);
        x.make(1, 11, 21);
        x.mark(1, 1, OPAQUE);
        x.mark(1, 11, OPAQUE);
        x.write(111, 2);
        x.make(211);
        x.remove(111);
        x.write(121, 3);
        x.mark(1, 1, OPAQUE);
        x.mark(1, 11, OPAQUE);
        x.mark(1, 21, DIRECTORY);
        x.marks(1, 6);
    }

    private static void opaqueOverSomething() {
        Asker x = new Asker();
        x.make(1, 11, 111, 9);
        x.write(1111, 1);
        x.write(2, 2);
        x.layer();
        x.layer();
        for (int path : new int[] {1111, 2, 9, 1}) {
            x.remove(path);
            x.make(path);
            x.mark(2, path, OPAQUE);
            x.names(path, 3, 0);
        }
        x.make(11, 111);
        x.mark(2, 11, OPAQUE);
        x.mark(2, 111, OPAQUE);
    }

    private static void directoryOverNothing() {
        Asker x = new Asker();
        x.make(1);
        x.write(11, 1);
        x.mark(0, 1, DIRECTORY);
        x.layer();
        x.remove(11);
        x.make(21);
        x.mark(1, 21, DIRECTORY);
        x.layer();
        x.make(11);
        x.mark(2, 11, DIRECTORY);
        x.write(2, 2);
        x.remove(2);
        x.make(2);
        x.mark(2, 2, DIRECTORY);
    }

    private static void marksGo() {
        Asker x = new Asker();
        x.make(1);
        x.layer();
        x.make(11, 111, 1111, 21);
        x.write(2111, 1);
        x.write(2, 2);
        x.marks(1, 7);
        x.remove(11, 4);
        for (int path : new int[] {11, 111, 1111, 2111}) {
            x.mark(1, path, NONE);
        }
        x.mark(1, 1, DIRECTORY);
        x.mark(1, 21, DIRECTORY);
        x.mark(1, 2, FILE);
        x.marks(1, 3);
        x.make(11);
        x.names(11, 2, 0);
        x.remove(1, 3);
        x.mark(1, 1, GONE);
        x.mark(1, 21, NONE);
        x.marks(1, 2);
        x.marks(0, 1);
    }

    private static void markGone() {
        Asker x = new Asker();
        x.make(1);
        x.write(11, 1);
        x.write(2, 2);
        x.layer();
        x.remove(2, 1);
        x.mark(1, 2, GONE);
        x.remove(11, 1);
        x.mark(1, 11, GONE);
        x.write(11, 3);
        x.remove(11, 1);
        x.mark(1, 11, GONE);
        x.write(9, 9);
        x.remove(9, 1);
        x.mark(1, 9, NONE);
        x.make(9);
        x.remove(9, 1);
        x.mark(1, 9, NONE);
        x.remove(1, 1);
        x.mark(1, 1, GONE);
        x.marks(1, 2);
        x.layer();
        x.write(2, 4);
        x.make(1);
        x.remove(2, 1);
        x.remove(1, 1);
        x.marks(2, 0);
        goneBelowOpaque();
    }

    private static void goneBelowOpaque() {
        Asker x = new Asker();
        x.make(1);
        x.write(11, 1);
        x.layer();
        x.remove(1);
        x.make(1);
        x.write(11, 2);
        x.write(21, 2);
        x.remove(11, 1);
        x.remove(21, 1);
        x.mark(1, 11, GONE);
        x.mark(1, 21, NONE);
    }

    /** Marks of all sorts in three layers, at paths of one to four names. */
    private static Asker threeLayers() {
        Asker x = new Asker();
        x.make(1, 11, 111, 9);
        x.write(1111, 5);
        x.write(2, 6);
        x.write(19, 7);
        x.layer();
        x.remove(1111);
        x.write(211, 8);
        x.remove(9);
        x.make(9);
        x.write(29, 1);
        x.layer();
        x.remove(2);
        x.write(19, 3);
        x.write(1111, 4);
        return x;
    }

    private static void refusedCalls() {
        Asker x = threeLayers();
        refusedWriting(x);
        refusedLooking(x, 3);
        for (int n = 4; n <= 8; n++) {
            x.layer(n);
        }
        x.layerFails();
        refusedWriting(x);
        refusedLooking(x, 8);
        x.write(29, 9);
        x.write(1111, 9);
        x.layerFails();
        refusedWriting(x);
        refusedLooking(x, 8);
        x.remove(1);
        for (int n = 7; n >= 1; n--) {
            x.squash(0, n);
        }
        x.dropFails();
        refusedLooking(x, 1);
    }

    private static void refusedWriting(Asker x) {
        for (int path : new int[] {-1, 0, 10, 101, 11111}) {
            x.writeFails(path, IllegalArgumentException.class);
            x.makeFails(path, IllegalArgumentException.class);
            x.removeFails(path, IllegalArgumentException.class);
            x.moveFails(path, 21, IllegalArgumentException.class);
            x.moveFails(1111, path, IllegalArgumentException.class);
        }
        for (int path : new int[] {1, 9, 12, 119, 1121}) {
            x.writeFails(path, IllegalStateException.class);
            x.makeFails(path, IllegalStateException.class);
            x.moveFails(1111, path, IllegalStateException.class);
        }
        x.makeFails(1111, IllegalStateException.class);
        for (int path : new int[] {2, 12, 21, 9999}) {
            x.removeFails(path, NoSuchElementException.class);
            x.moveFails(path, 21, NoSuchElementException.class);
        }
        x.moveFails(1, 21, NoSuchElementException.class);
    }

    private static void refusedLooking(Asker x, int count) {
        for (int k : new int[] {-1, count - 1, count}) {
            x.squashFails(k);
        }
        for (int layer : new int[] {-1, count}) {
            x.markFails(layer, 1, IndexOutOfBoundsException.class);
            x.marksFails(layer);
        }
        for (int n : new int[] {-1, 0, count + 1}) {
            x.kindFails(1, n);
            x.valueFails(1, n, IllegalArgumentException.class);
            x.namesFails(1, n, IllegalArgumentException.class);
        }
        x.markFails(0, 0, IllegalArgumentException.class);
        x.kindFails(10, 1);
        x.valueFails(9, count, NoSuchElementException.class);
        x.namesFails(2, count, NoSuchElementException.class);
    }
}
