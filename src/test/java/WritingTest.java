import java.util.List;
import java.util.NoSuchElementException;

/** A test for each sentence of promises 2 to 5 (write, make, remove, move), at the boundaries it names. */
public final class WritingTest {
    private static final int NONE = OverlayTree.NONE;
    private static final int FILE = 0;
    private static final int DIRECTORY = 1;
    private static final int OPAQUE = 2;
    private static final int GONE = 3;

    private WritingTest() {
    }

    public static void main(String[] args) {
        write();
        make();
        remove();
        move();
        Check.end();
    }

    private static void write() {
        Check.sentence("write: A file's value is set at a path", WritingTest::writeSetsValue);
        Check.sentence("write: whether there was no file before", WritingTest::writeAnswers);
        Check.sentence("write: IllegalArgumentException if it is no path", WritingTest::writeNoPath);
        Check.sentence("write: IllegalArgumentException if it is .. the root", WritingTest::writeRoot);
        Check.sentence("write: IllegalStateException if its parent is no directory there",
                WritingTest::writeBelowNoDirectory);
        Check.sentence("write: IllegalStateException if .. it is one", WritingTest::writeOverDirectory);
    }

    private static void make() {
        Check.sentence("make: A directory is made", WritingTest::makeMakes);
        Check.sentence("make: IllegalArgumentException as for write() (it is no path)", WritingTest::makeNoPath);
        Check.sentence("make: IllegalArgumentException as for write() (the root)", WritingTest::makeRoot);
        Check.sentence("make: IllegalStateException if its parent is no directory there",
                WritingTest::makeBelowNoDirectory);
        Check.sentence("make: IllegalStateException if .. something is there", WritingTest::makeOverSomething);
    }

    private static void remove() {
        Check.sentence("remove: A file .. is taken away", WritingTest::removeFile);
        Check.sentence("remove: a directory with all that is below it, is taken away", WritingTest::removeDirectory);
        Check.sentence("remove: how many files and directories that were", WritingTest::removeCounts);
        Check.sentence("remove: IllegalArgumentException as for write() (it is no path)", WritingTest::removeNoPath);
        Check.sentence("remove: IllegalArgumentException as for write() (the root)", WritingTest::removeRoot);
        Check.sentence("remove: NoSuchElementException if nothing is there", WritingTest::removeNothing);
    }

    private static void move() {
        Check.sentence("move: A file goes to another path, where nothing .. is", WritingTest::moveToNothing);
        Check.sentence("move: A file goes to another path, where .. a file is", WritingTest::moveToFile);
        Check.sentence("move: IllegalArgumentException as for write() for both (the first is no path)",
                WritingTest::moveNoPath);
        Check.sentence("move: IllegalArgumentException as for write() for both (the second is no path)",
                WritingTest::moveToNoPath);
        Check.sentence("move: IllegalArgumentException as for write() for both (the root)", WritingTest::moveRoot);
        Check.sentence("move: NoSuchElementException if there is no file at the first one", WritingTest::moveNoFile);
        Check.sentence("move: IllegalStateException as for write() at the second one (its parent is no directory)",
                WritingTest::moveBelowNoDirectory);
        Check.sentence("move: IllegalStateException as for write() at the second one (it is one)",
                WritingTest::moveOverDirectory);
        Check.sentence("move: (To itself: nothing changes.)", WritingTest::moveToItself);
    }

    /**
     * Layer 0 has the directories 1, 11, 111, 9 and the files 1111, 2, 19; layer 1 takes 9 and 2 away and
     * puts an opaque 111 with a file 9111 in the old one's place; layer 2 has no marks.
     */
    private static Asker scene() {
        Asker x = new Asker();
        x.make(1, 11, 111, 9);
        x.write(1111, 5);
        x.write(2, 6);
        x.write(19, 7);
        x.layer();
        x.remove(9);
        x.remove(2);
        x.remove(111);
        x.make(111);
        x.write(9111, 8);
        x.layer();
        return x;
    }

    private static void writeSetsValue() {
        Asker x = scene();
        x.write(9111, 1);
        x.value(9111, 3, 1);
        x.value(9111, 2, 8);
        x.mark(2, 9111, FILE);
        x.write(9111, 1);
        x.value(9111, 3, 1);
        x.write(9, 2);
        x.value(9, 3, 2);
        x.kind(9, 2, NONE);
        x.kind(9, 1, DIRECTORY);
        x.marks(2, 5);
    }

    private static void writeAnswers() {
        Asker x = scene();
        x.write(21, 1, true);
        x.write(21, 1, false);
        x.write(21, 2, false);
        x.write(9111, 1, false);
        x.write(1111, 1, true);
        x.write(2, 1, true);
        x.write(9, 1, true);
        x.remove(21);
        x.write(21, 3, true);
        x.remove(9111);
        x.write(9111, 3, true);
        x.layer();
        x.write(9111, 3, false);
    }

    private static void writeNoPath() {
        for (int path : Asker.NO_PATHS) {
            scene().writeFails(path, IllegalArgumentException.class);
            new Asker().writeFails(path, IllegalArgumentException.class);
        }
    }

    private static void writeRoot() {
        new Asker().writeFails(0, IllegalArgumentException.class);
        scene().writeFails(0, IllegalArgumentException.class);
    }

    /** The parent is nothing, taken away, a file, below one of these, or there only in a lower view. */
    private static void writeBelowNoDirectory() {
        new Asker().writeFails(11, IllegalStateException.class);
        Asker x = scene();
        for (int path : new int[] {121, 1121, 1211, 12, 112, 19, 119, 1119, 99}) {
            x.writeFails(path, IllegalStateException.class);
        }
        x.write(2, 1);
        x.writeFails(12, IllegalStateException.class);
        x.writeFails(1112, IllegalStateException.class);
        x.remove(11);
        x.writeFails(111, IllegalStateException.class);
        x.writeFails(9111, IllegalStateException.class);
        x.write(11, 1, true);
        x.writeFails(111, IllegalStateException.class);
    }

    private static void writeOverDirectory() {
        Asker x = scene();
        x.writeFails(1, IllegalStateException.class);
        x.writeFails(11, IllegalStateException.class);
        x.writeFails(111, IllegalStateException.class);
        x.make(1111);
        x.writeFails(1111, IllegalStateException.class);
        x.make(9);
        x.writeFails(9, IllegalStateException.class);
        x.remove(9);
        x.write(9, 1, true);
    }

    private static void makeMakes() {
        Asker x = scene();
        x.make(9, 99, 999, 9999);
        x.names(0, 3, 1 << 1 | 1 << 9);
        x.names(9, 3, 1 << 9);
        x.names(99, 3, 1 << 9);
        x.names(999, 3, 1 << 9);
        x.names(9999, 3, 0);
        x.kind(9999, 3, DIRECTORY);
        x.mark(2, 9, DIRECTORY);
        x.remove(9111);
        x.make(9111);
        x.kind(9111, 3, DIRECTORY);
        x.kind(9111, 2, FILE);
        x.mark(2, 9111, OPAQUE);
    }

    private static void makeNoPath() {
        for (int path : Asker.NO_PATHS) {
            scene().makeFails(path, IllegalArgumentException.class);
            new Asker().makeFails(path, IllegalArgumentException.class);
        }
    }

    private static void makeRoot() {
        new Asker().makeFails(0, IllegalArgumentException.class);
        scene().makeFails(0, IllegalArgumentException.class);
    }

    private static void makeBelowNoDirectory() {
        new Asker().makeFails(11, IllegalStateException.class);
        Asker x = scene();
        for (int path : new int[] {121, 1121, 1211, 12, 112, 19, 119, 1119, 99}) {
            x.makeFails(path, IllegalStateException.class);
        }
        x.write(2, 1);
        x.makeFails(12, IllegalStateException.class);
        x.makeFails(1112, IllegalStateException.class);
        x.remove(11);
        x.makeFails(111, IllegalStateException.class);
        x.makeFails(9111, IllegalStateException.class);
    }

    private static void makeOverSomething() {
        Asker x = scene();
        for (int path : new int[] {1, 11, 111, 9111}) {
            x.makeFails(path, IllegalStateException.class);
        }
        x.make(9, 1111);
        x.makeFails(9, IllegalStateException.class);
        x.makeFails(1111, IllegalStateException.class);
        x.write(2, 1);
        x.makeFails(2, IllegalStateException.class);
        x.remove(2);
        x.make(2);
    }

    private static void removeFile() {
        Asker x = scene();
        x.remove(9111, 1);
        x.kind(9111, 3, NONE);
        x.value(9111, 2, 8);
        x.mark(2, 9111, GONE);
        x.write(2111, 1);
        x.remove(2111, 1);
        x.kind(2111, 3, NONE);
        x.mark(2, 2111, NONE);
        x.kind(111, 3, DIRECTORY);
    }

    private static void removeDirectory() {
        Asker x = scene();
        x.write(2111, 1);
        x.remove(1, 5);
        for (int path : new int[] {1, 11, 111, 1111, 2111, 9111}) {
            x.kind(path, 3, NONE);
        }
        x.mark(2, 1, GONE);
        x.marks(2, 1);
        x.make(1);
        x.names(1, 3, 0);
        x.kind(1111, 1, FILE);
        x.kind(9111, 2, FILE);
    }

    private static void removeCounts() {
        Asker x = scene();
        x.make(2);
        x.remove(2, 1);
        x.remove(9111, 1);
        x.remove(111, 1);
        x.remove(1, 2);
        fullDirectories();
        longestPaths();
    }

    /** Nine names in each of nine directories, and what lies in several layers is counted once. */
    private static void fullDirectories() {
        Asker x = new Asker();
        x.make(1);
        for (int a = 1; a <= 9; a++) {
            x.make(10 * a + 1);
            for (int b = 1; b <= 9; b++) {
                x.write(100 * b + 10 * a + 1, b);
            }
        }
        x.layer();
        for (int b = 1; b <= 9; b++) {
            x.write(100 * b + 11, b);
        }
        x.remove(191, 1);
        x.remove(11, 10);
        x.remove(91, 9);
        x.remove(1, 1 + 7 * 10);
    }

    private static void longestPaths() {
        Asker x = new Asker();
        x.make(9, 99, 999);
        for (int a = 1; a <= 9; a++) {
            x.make(1000 * a + 999);
        }
        x.remove(9999, 1);
        x.remove(999, 9);
        x.remove(9, 2);
        x.marks(0, 0);
    }

    private static void removeNoPath() {
        for (int path : Asker.NO_PATHS) {
            scene().removeFails(path, IllegalArgumentException.class);
            new Asker().removeFails(path, IllegalArgumentException.class);
        }
    }

    private static void removeRoot() {
        new Asker().removeFails(0, IllegalArgumentException.class);
        scene().removeFails(0, IllegalArgumentException.class);
    }

    /** Never was, is taken away, is hidden, is below a file, was removed before. */
    private static void removeNothing() {
        new Asker().removeFails(1, NoSuchElementException.class);
        Asker x = scene();
        for (int path : new int[] {2, 9, 19, 21, 22, 1111, 2111, 9999}) {
            x.removeFails(path, NoSuchElementException.class);
        }
        x.remove(9111);
        x.removeFails(9111, NoSuchElementException.class);
        x.remove(1);
        x.removeFails(1, NoSuchElementException.class);
        x.removeFails(11, NoSuchElementException.class);
        x.write(1, 1);
        x.removeFails(11, NoSuchElementException.class);
    }

    private static void moveToNothing() {
        Asker x = scene();
        x.move(9111, 21);
        x.kind(9111, 3, NONE);
        x.mark(2, 9111, GONE);
        x.value(21, 3, 8);
        x.mark(2, 21, FILE);
        x.move(21, 2);
        x.mark(2, 21, NONE);
        x.value(2, 3, 8);
        x.move(2, 9111);
        x.value(9111, 3, 8);
        x.mark(2, 9111, FILE);
        x.mark(2, 2, NONE);
        x.marks(2, 4);
        x.value(9111, 2, 8);
    }

    private static void moveToFile() {
        Asker x = scene();
        x.write(2, 1);
        x.move(9111, 2);
        x.value(2, 3, 8);
        x.kind(9111, 3, NONE);
        x.write(21, 3);
        x.layer();
        x.move(2, 21);
        x.value(21, 4, 8);
        x.value(21, 3, 3);
        x.kind(2, 4, NONE);
        x.mark(3, 2, GONE);
        x.mark(3, 1, DIRECTORY);
        x.mark(3, 21, FILE);
        x.marks(3, 3);
    }

    private static void moveNoPath() {
        for (int path : Asker.NO_PATHS) {
            scene().moveFails(path, 21, IllegalArgumentException.class);
            scene().moveFails(path, path, IllegalArgumentException.class);
            new Asker().moveFails(path, 1, IllegalArgumentException.class);
        }
    }

    /** The number is no path, whether there is a file to be moved or not. */
    private static void moveToNoPath() {
        for (int path : Asker.NO_PATHS) {
            scene().moveFails(9111, path, IllegalArgumentException.class);
            scene().moveFails(2, path, IllegalArgumentException.class);
        }
    }

    private static void moveRoot() {
        Asker x = scene();
        x.moveFails(0, 21, IllegalArgumentException.class);
        x.moveFails(9111, 0, IllegalArgumentException.class);
        x.moveFails(2, 0, IllegalArgumentException.class);
        x.moveFails(0, 0, IllegalArgumentException.class);
    }

    /** At the first path is nothing, something taken away or hidden, or a directory. */
    private static void moveNoFile() {
        new Asker().moveFails(1, 2, NoSuchElementException.class);
        Asker x = scene();
        for (int path : new int[] {2, 9, 19, 22, 1111, 2111, 1, 11, 111}) {
            x.moveFails(path, 21, NoSuchElementException.class);
            x.moveFails(path, path, NoSuchElementException.class);
        }
        x.moveFails(2, 1, NoSuchElementException.class);
        x.moveFails(2, 12, NoSuchElementException.class);
        x.move(9111, 21);
        x.moveFails(9111, 21, NoSuchElementException.class);
    }

    /** The second path's parent is nothing, taken away, a file, or the very file that is to be moved. */
    private static void moveBelowNoDirectory() {
        Asker x = scene();
        for (int path : new int[] {121, 1121, 1211, 12, 112, 19, 119, 1119, 99}) {
            x.moveFails(9111, path, IllegalStateException.class);
        }
        x.write(2, 1);
        x.moveFails(9111, 12, IllegalStateException.class);
        x.moveFails(2, 12, IllegalStateException.class);
        x.moveFails(2, 1112, IllegalStateException.class);
    }

    private static void moveOverDirectory() {
        Asker x = scene();
        for (int path : new int[] {1, 11, 111}) {
            x.moveFails(9111, path, IllegalStateException.class);
        }
        x.make(9, 1111);
        x.moveFails(9111, 9, IllegalStateException.class);
        x.moveFails(9111, 1111, IllegalStateException.class);
        x.remove(9);
        x.move(9111, 9);
        x.value(9, 3, 8);
    }

    /** Not even a mark comes or goes, whichever layer has the file. */
    private static void moveToItself() {
        Asker x = scene();
        List<Long> before = x.state();
        x.move(9111, 9111);
        Check.holds("move(9111, 9111) changes nothing", x.state().equals(before));
        x.marks(2, 0);
        x.value(9111, 3, 8);
        x.write(21, 3);
        before = x.state();
        x.move(21, 21);
        Check.holds("move(21, 21) changes nothing", x.state().equals(before));
        x.value(21, 3, 3);
        x.moveFails(1, 1, NoSuchElementException.class);
        x.moveFails(2, 2, NoSuchElementException.class);
        x.moveFails(0, 0, IllegalArgumentException.class);
    }
}
