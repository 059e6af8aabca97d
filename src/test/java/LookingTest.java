import java.util.NoSuchElementException;

/** A test for each sentence of promises 9 to 13 (kind, value, names, mark, marks), at the boundaries it names. */
public final class LookingTest {
    private static final int NONE = OverlayTree.NONE;
    private static final int FILE = 0;
    private static final int DIRECTORY = 1;
    private static final int OPAQUE = 2;
    private static final int GONE = 3;

    private LookingTest() {
    }

    public static void main(String[] args) {
        kind();
        value();
        names();
        mark();
        Check.sentence("marks: How many marks a layer has", LookingTest::marksCounts);
        Check.sentence("marks: IndexOutOfBoundsException if there is no such layer", LookingTest::marksNoLayer);
        Check.end();
    }

    private static void kind() {
        Check.sentence("kind: NONE nothing, 0 a file, 1 a directory", LookingTest::kindAnswers);
        Check.sentence("kind: What the view of the lowest n layers has", LookingTest::kindInEachView);
        Check.sentence("kind: IllegalArgumentException if it is no path", LookingTest::kindNoPath);
        Check.sentence("kind: IllegalArgumentException if .. there aren't so many layers", LookingTest::kindTooMany);
        Check.sentence("kind: IllegalArgumentException if .. n is 0", LookingTest::kindOfNone);
    }

    private static void value() {
        Check.sentence("value: The value of a file in the view of the lowest n layers", LookingTest::valueInEachView);
        Check.sentence("value: IllegalArgumentException as for kind() (it is no path)", LookingTest::valueNoPath);
        Check.sentence("value: IllegalArgumentException as for kind() (there aren't so many layers)",
                LookingTest::valueTooMany);
        Check.sentence("value: IllegalArgumentException as for kind() (n is 0)", LookingTest::valueOfNone);
        Check.sentence("value: NoSuchElementException if there is no file", LookingTest::valueNoFile);
    }

    private static void names() {
        Check.sentence("names: The names in a directory .. a bit each (none)", LookingTest::namesOfEmpty);
        Check.sentence("names: The names in a directory .. a bit each (all)", LookingTest::namesOfFull);
        Check.sentence("names: (name 1 is bit 1)", LookingTest::namesBits);
        Check.sentence("names: in the view of the lowest n layers", LookingTest::namesInEachView);
        Check.sentence("names: Exceptions as for value() (it is no path)", LookingTest::namesNoPath);
        Check.sentence("names: Exceptions as for value() (there aren't so many layers)", LookingTest::namesTooMany);
        Check.sentence("names: Exceptions as for value() (n is 0)", LookingTest::namesOfNone);
        Check.sentence("names: Exceptions as for value(), if there is no directory", LookingTest::namesNoDirectory);
    }

    private static void mark() {
        Check.sentence("mark: NONE without one, 0 a file, 1 a directory, 2 an opaque one, 3 gone",
                LookingTest::markAnswers);
        Check.sentence("mark: The mark of a layer", LookingTest::markOfEachLayer);
        Check.sentence("mark: IndexOutOfBoundsException if there is no such layer", LookingTest::markNoLayer);
        Check.sentence("mark: IllegalArgumentException if it is no path", LookingTest::markNoPath);
        Check.sentence("mark: IllegalArgumentException if it is .. the root", LookingTest::markRoot);
    }

    /** Eight layers; those with an even number write the file 11 anew, the others take it away. */
    private static Asker eightLayers() {
        Asker x = new Asker();
        x.make(1);
        x.write(11, 100);
        for (int layer = 1; layer < 8; layer++) {
            x.layer();
            if (layer % 2 == 1) {
                x.remove(11);
            } else {
                x.write(11, 100 + layer);
            }
        }
        return x;
    }

    private static Asker layers(int count) {
        Asker x = new Asker();
        x.make(1);
        x.write(2, 5);
        for (int n = 2; n <= count; n++) {
            x.layer();
        }
        return x;
    }

    /** Numbers from the first one that is too large on, and numbers below 0. */
    private static int[] wrongCounts(int tooMany) {
        return new int[] {
            tooMany, tooMany + 1, 9, 10, 256, 257, 65537, Integer.MAX_VALUE, -1, -2, -8, Integer.MIN_VALUE,
            Integer.MIN_VALUE + 1
        };
    }

    private static void kindAnswers() {
        Asker x = new Asker();
        x.kind(0, 1, DIRECTORY);
        x.kind(9999, 1, NONE);
        x.make(9, 99, 999);
        x.write(9999, 5);
        x.make(1999);
        x.kind(9, 1, DIRECTORY);
        x.kind(999, 1, DIRECTORY);
        x.kind(9999, 1, FILE);
        x.kind(1999, 1, DIRECTORY);
        x.kind(2999, 1, NONE);
        x.kind(1, 1, NONE);
    }

    private static void kindInEachView() {
        Asker x = eightLayers();
        for (int n = 1; n <= 8; n++) {
            x.kind(11, n, n % 2 == 1 ? FILE : NONE);
            x.kind(1, n, DIRECTORY);
            x.kind(0, n, DIRECTORY);
        }
    }

    private static void kindNoPath() {
        Asker x = eightLayers();
        for (int path : Asker.NO_PATHS) {
            x.kindFails(path, 1);
            x.kindFails(path, 8);
        }
    }

    private static void kindTooMany() {
        for (int count = 1; count <= 8; count++) {
            Asker x = layers(count);
            x.kind(1, count, DIRECTORY);
            for (int n : wrongCounts(count + 1)) {
                x.kindFails(1, n);
                x.kindFails(0, n);
            }
        }
        Asker x = layers(8);
        x.drop();
        x.kindFails(1, 8);
        x.squash(0);
        x.kindFails(1, 7);
        x.kind(1, 6, DIRECTORY);
    }

    private static void kindOfNone() {
        for (int count : new int[] {1, 2, 8}) {
            Asker x = layers(count);
            x.kindFails(1, 0);
            x.kindFails(0, 0);
            x.kindFails(9999, 0);
        }
    }

    private static void valueInEachView() {
        Asker x = eightLayers();
        for (int n = 1; n <= 7; n += 2) {
            x.value(11, n, 99 + n);
        }
        x.write(11, -1);
        x.value(11, 8, -1);
        x.value(11, 7, 106);
        x.value(11, 1, 100);
    }

    private static void valueNoPath() {
        Asker x = eightLayers();
        for (int path : Asker.NO_PATHS) {
            x.valueFails(path, 1, IllegalArgumentException.class);
            x.valueFails(path, 8, IllegalArgumentException.class);
        }
    }

    private static void valueTooMany() {
        for (int count = 1; count <= 8; count++) {
            Asker x = layers(count);
            x.value(2, count, 5);
            for (int n : wrongCounts(count + 1)) {
                x.valueFails(2, n, IllegalArgumentException.class);
                x.valueFails(1, n, IllegalArgumentException.class);
            }
        }
    }

    private static void valueOfNone() {
        for (int count : new int[] {1, 2, 8}) {
            Asker x = layers(count);
            x.valueFails(2, 0, IllegalArgumentException.class);
            x.valueFails(1, 0, IllegalArgumentException.class);
            x.valueFails(0, 0, IllegalArgumentException.class);
        }
    }

    /** The root, a directory, nothing, below a file, taken away, or there only in a higher or lower view. */
    private static void valueNoFile() {
        new Asker().valueFails(0, 1, NoSuchElementException.class);
        Asker x = eightLayers();
        x.write(9, 9);
        for (int path : new int[] {0, 1, 2, 111, 1111}) {
            x.valueFails(path, 1, NoSuchElementException.class);
            x.valueFails(path, 8, NoSuchElementException.class);
        }
        for (int n = 2; n <= 8; n += 2) {
            x.valueFails(11, n, NoSuchElementException.class);
        }
        x.valueFails(9, 7, NoSuchElementException.class);
        x.value(9, 8, 9);
    }

    private static void namesOfEmpty() {
        Asker x = new Asker();
        x.names(0, 1, 0);
        x.make(9, 99, 999, 9999);
        x.names(9999, 1, 0);
        x.make(1);
        x.names(1, 1, 0);
        x.write(11, 1);
        x.layer();
        x.remove(11);
        x.names(1, 2, 0);
        x.remove(9);
        x.remove(1);
        x.names(0, 2, 0);
    }

    private static void namesOfFull() {
        Asker x = new Asker();
        x.make(1, 11, 111);
        for (int name = 2; name <= 9; name++) {
            x.write(name, name);
            x.make(10 * name + 1);
            x.write(100 * name + 11, name);
            x.make(1000 * name + 111);
        }
        x.write(1111, 1);
        for (int path : new int[] {0, 1, 11, 111}) {
            x.names(path, 1, 0x3FE);
        }
        x.layer();
        x.names(111, 2, 0x3FE);
    }

    private static void namesBits() {
        for (int name = 1; name <= 9; name++) {
            Asker x = new Asker();
            x.make(name);
            x.write(10 * name + name, 1);
            x.names(0, 1, 1 << name);
            x.names(name, 1, 1 << name);
        }
    }

    private static void namesInEachView() {
        Asker x = new Asker();
        x.make(1);
        for (int n = 1; n <= 8; n++) {
            x.write(10 * n + 1, n);
            if (n < 8) {
                x.layer();
            }
        }
        for (int n = 1; n <= 8; n++) {
            x.names(1, n, (1 << n + 1) - 2);
        }
    }

    private static void namesNoPath() {
        Asker x = eightLayers();
        for (int path : Asker.NO_PATHS) {
            x.namesFails(path, 1, IllegalArgumentException.class);
            x.namesFails(path, 8, IllegalArgumentException.class);
        }
    }

    private static void namesTooMany() {
        for (int count = 1; count <= 8; count++) {
            Asker x = layers(count);
            x.names(0, count, 1 << 1 | 1 << 2);
            for (int n : wrongCounts(count + 1)) {
                x.namesFails(0, n, IllegalArgumentException.class);
                x.namesFails(2, n, IllegalArgumentException.class);
            }
        }
    }

    private static void namesOfNone() {
        for (int count : new int[] {1, 2, 8}) {
            Asker x = layers(count);
            x.namesFails(0, 0, IllegalArgumentException.class);
            x.namesFails(1, 0, IllegalArgumentException.class);
            x.namesFails(2, 0, IllegalArgumentException.class);
        }
    }

    /** A file, nothing, below a file, taken away, hidden, or there only in a higher view. */
    private static void namesNoDirectory() {
        new Asker().namesFails(1, 1, NoSuchElementException.class);
        Asker x = eightLayers();
        x.make(9);
        for (int path : new int[] {11, 111, 1111, 2, 21, 9999}) {
            x.namesFails(path, 1, NoSuchElementException.class);
            x.namesFails(path, 8, NoSuchElementException.class);
        }
        x.namesFails(9, 7, NoSuchElementException.class);
        x.names(9, 8, 0);
        x.remove(1);
        x.namesFails(1, 8, NoSuchElementException.class);
        x.names(1, 7, 1 << 1);
        x.write(1, 1);
        x.namesFails(1, 8, NoSuchElementException.class);
    }

    private static void markAnswers() {
        Asker x = new Asker();
        x.mark(0, 9999, NONE);
        x.make(1, 2);
        x.write(11, 1);
        x.layer();
        x.remove(1);
        x.make(1);
        x.remove(2);
        x.write(11, 2);
        x.make(9);
        x.mark(1, 11, FILE);
        x.mark(1, 9, DIRECTORY);
        x.mark(1, 1, OPAQUE);
        x.mark(1, 2, GONE);
        x.mark(1, 21, NONE);
        x.mark(1, 111, NONE);
        x.mark(1, 1111, NONE);
        x.mark(1, 12, NONE);
        x.mark(1, 9999, NONE);
        x.mark(0, 9, NONE);
    }

    private static void markOfEachLayer() {
        Asker x = eightLayers();
        for (int layer = 0; layer < 8; layer++) {
            x.mark(layer, 11, layer % 2 == 0 ? FILE : GONE);
            x.mark(layer, 1, DIRECTORY);
            x.mark(layer, 2, NONE);
        }
    }

    private static void markNoLayer() {
        for (int count = 1; count <= 8; count++) {
            Asker x = layers(count);
            x.mark(count - 1, 1, count == 1 ? DIRECTORY : NONE);
            for (int layer : wrongCounts(count)) {
                x.markFails(layer, 1, IndexOutOfBoundsException.class);
            }
        }
        Asker x = layers(8);
        x.drop();
        x.markFails(7, 1, IndexOutOfBoundsException.class);
        x.squash(0);
        x.markFails(6, 1, IndexOutOfBoundsException.class);
    }

    private static void markNoPath() {
        Asker x = eightLayers();
        for (int path : Asker.NO_PATHS) {
            x.markFails(0, path, IllegalArgumentException.class);
            x.markFails(7, path, IllegalArgumentException.class);
        }
    }

    private static void markRoot() {
        for (int count : new int[] {1, 2, 8}) {
            Asker x = layers(count);
            x.markFails(0, 0, IllegalArgumentException.class);
            x.markFails(count - 1, 0, IllegalArgumentException.class);
        }
    }

    private static void marksCounts() {
        Asker x = new Asker();
        x.marks(0, 0);
        x.make(9, 99, 999);
        x.marks(0, 3);
        for (int name = 1; name <= 9; name++) {
            x.write(1000 * name + 999, name);
        }
        x.marks(0, 12);
        x.write(9999, 10);
        x.marks(0, 12);
        x.layer();
        x.marks(1, 0);
        x.remove(9999);
        x.marks(1, 4);
        x.remove(9);
        x.marks(1, 1);
        x.make(9);
        x.marks(1, 1);
        x.marks(0, 12);
        for (int n = 3; n <= 8; n++) {
            x.layer();
            x.marks(n - 1, 0);
        }
        x.write(1, 1);
        x.marks(7, 1);
    }

    private static void marksNoLayer() {
        for (int count = 1; count <= 8; count++) {
            Asker x = layers(count);
            x.marks(count - 1, count == 1 ? 2 : 0);
            for (int layer : wrongCounts(count)) {
                x.marksFails(layer);
            }
        }
        Asker x = layers(8);
        x.drop();
        x.marksFails(7);
        x.squash(0);
        x.marksFails(6);
        x.marks(5, 0);
    }
}
