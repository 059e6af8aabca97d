import java.util.NoSuchElementException;

/** The promises one by one: ordinary inputs, the edges that the document names, wrong inputs. */
public final class PromiseTest {
    private static final int[] NO_PATHS = {
        -1, -12, Integer.MIN_VALUE, 10, 20, 90, 100, 101, 102, 110, 120, 909, 1000, 1001, 1011, 1010,
        1100, 1101, 1102, 2013, 9990, 10000, 11111, 12345, Integer.MAX_VALUE
    };
    private static final int[] PATHS = {0, 1, 9, 11, 12, 99, 111, 342, 999, 1111, 4321, 9999};
    private static final int[] NO_LAYERS = {-1, Integer.MIN_VALUE, 8, 9, Integer.MAX_VALUE};

    private static OverlayTree x;

    private PromiseTest() {
    }

    public static void main(String[] args) {
        newObject();
        paths();
        write();
        make();
        remove();
        removeCounts();
        move();
        layer();
        squash();
        squashTable();
        squashBelowHidingMarks();
        squashDeep();
        drop();
        kind();
        value();
        names();
        mark();
        marks();
        opaqueBelowOpaque();
        orderOfExceptions();
        Check.end();
    }

    private static void fresh() {
        x = new OverlayTree();
    }

    private static void dueWrite(int path, int value, boolean due) {
        Check.same("write(" + path + ", " + value + ")", x.write(path, value) ? 1 : 0, due ? 1 : 0);
    }

    private static void dueRemove(int path, int due) {
        Check.same("remove(" + path + ")", x.remove(path), due);
    }

    private static void dueLayer(int due) {
        Check.same("layer()", x.layer(), due);
    }

    private static void dueSquash(int k, int due) {
        Check.same("squash(" + k + ")", x.squash(k), due);
    }

    private static void dueDrop(int due) {
        Check.same("drop()", x.drop(), due);
    }

    private static void dueKind(int path, int n, int due) {
        Check.same("kind(" + path + ", " + n + ")", x.kind(path, n), due);
    }

    private static void dueValue(int path, int n, int due) {
        Check.same("value(" + path + ", " + n + ")", x.value(path, n), due);
    }

    private static void dueNames(int path, int n, int due) {
        Check.same("names(" + path + ", " + n + ")", x.names(path, n), due);
    }

    private static void dueMark(int layer, int path, int due) {
        Check.same("mark(" + layer + ", " + path + ")", x.mark(layer, path), due);
    }

    private static void dueMarks(int layer, int due) {
        Check.same("marks(" + layer + ")", x.marks(layer), due);
    }

    private static void writeFails(int path, Class<? extends RuntimeException> due) {
        Check.fails("write(" + path + ", 1)", due, () -> x.write(path, 1) ? 1 : 0);
    }

    private static void makeFails(int path, Class<? extends RuntimeException> due) {
        Check.fails("make(" + path + ")", due, () -> {
            x.make(path);
            return 0;
        });
    }

    private static void removeFails(int path, Class<? extends RuntimeException> due) {
        Check.fails("remove(" + path + ")", due, () -> x.remove(path));
    }

    private static void moveFails(int path, int to, Class<? extends RuntimeException> due) {
        Check.fails("move(" + path + ", " + to + ")", due, () -> {
            x.move(path, to);
            return 0;
        });
    }

    private static void squashFails(int k) {
        Check.fails("squash(" + k + ")", IndexOutOfBoundsException.class, () -> x.squash(k));
    }

    private static void kindFails(int path, int n) {
        Check.fails("kind(" + path + ", " + n + ")", IllegalArgumentException.class, () -> x.kind(path, n));
    }

    private static void valueFails(int path, int n, Class<? extends RuntimeException> due) {
        Check.fails("value(" + path + ", " + n + ")", due, () -> x.value(path, n));
    }

    private static void namesFails(int path, int n, Class<? extends RuntimeException> due) {
        Check.fails("names(" + path + ", " + n + ")", due, () -> x.names(path, n));
    }

    private static void markFails(int layer, int path, Class<? extends RuntimeException> due) {
        Check.fails("mark(" + layer + ", " + path + ")", due, () -> x.mark(layer, path));
    }

    private static void newObject() {
        fresh();
        Check.same("NONE", OverlayTree.NONE, -1);
        dueMarks(0, 0);
        dueNames(0, 1, 0);
        dueKind(0, 1, 1);
        kindFails(0, 2);
        Check.fails("marks(1)", IndexOutOfBoundsException.class, () -> x.marks(1));
        x.write(1, 1);
        fresh();
        dueMarks(0, 0);
    }

    private static void paths() {
        fresh();
        for (int path : NO_PATHS) {
            kindFails(path, 1);
            valueFails(path, 1, IllegalArgumentException.class);
            namesFails(path, 1, IllegalArgumentException.class);
            markFails(0, path, IllegalArgumentException.class);
            writeFails(path, IllegalArgumentException.class);
            makeFails(path, IllegalArgumentException.class);
            removeFails(path, IllegalArgumentException.class);
            moveFails(path, 1, IllegalArgumentException.class);
        }
        for (int path : PATHS) {
            dueKind(path, 1, path == 0 ? 1 : -1);
        }
        x.write(1, 1);
        for (int path : NO_PATHS) {
            moveFails(1, path, IllegalArgumentException.class);
        }
        dueMarks(0, 1);
    }

    private static void write() {
        fresh();
        dueWrite(9, Integer.MIN_VALUE, true);
        dueValue(9, 1, Integer.MIN_VALUE);
        dueWrite(9, Integer.MAX_VALUE, false);
        dueValue(9, 1, Integer.MAX_VALUE);
        dueWrite(9, -1, false);
        dueValue(9, 1, -1);
        writeFails(0, IllegalArgumentException.class);
        writeFails(19, IllegalStateException.class);
        writeFails(12, IllegalStateException.class);
        x.make(2);
        writeFails(2, IllegalStateException.class);
        writeFails(312, IllegalStateException.class);
        dueMarks(0, 2);
        x.make(12);
        x.make(312);
        dueWrite(4312, 5, true);
        dueLayer(2);
        dueWrite(4312, 5, false);
        dueMark(1, 2, 1);
        dueMark(1, 12, 1);
        dueMark(1, 312, 1);
        dueMark(1, 4312, 0);
        dueMarks(1, 4);
        dueWrite(4312, 6, false);
        dueValue(4312, 1, 5);
        dueValue(4312, 2, 6);
        dueRemove(4312, 1);
        dueMark(1, 4312, 3);
        dueWrite(4312, 7, true);
        dueMark(1, 4312, 0);
        dueMarks(1, 4);
    }

    private static void make() {
        fresh();
        makeFails(0, IllegalArgumentException.class);
        makeFails(11, IllegalStateException.class);
        x.make(1);
        makeFails(1, IllegalStateException.class);
        x.make(11);
        x.make(111);
        x.make(1111);
        dueKind(1111, 1, 1);
        dueMark(0, 1111, 1);
        x.write(2, 1);
        makeFails(2, IllegalStateException.class);
        makeFails(12, IllegalStateException.class);
        dueMarks(0, 5);
        dueLayer(2);
        makeFails(1, IllegalStateException.class);
        makeFails(2, IllegalStateException.class);
        x.make(21);
        dueMark(1, 21, 1);
        dueMark(1, 1, 1);
        dueRemove(2, 1);
        dueMark(1, 2, 3);
        x.make(2);
        dueMark(1, 2, 2);
        x.make(12);
        dueMark(1, 12, 1);
        dueNames(2, 2, 2);
        dueRemove(1111, 1);
        x.make(1111);
        dueMark(1, 1111, 2);
        dueMark(1, 1, 1);
        dueMark(1, 11, 1);
        dueMark(1, 111, 1);
        dueRemove(21, 1);
        x.make(21);
        dueMark(1, 21, 1);
    }

    private static void remove() {
        fresh();
        removeFails(0, IllegalArgumentException.class);
        removeFails(1, NoSuchElementException.class);
        x.make(1);
        x.write(11, 1);
        x.make(21);
        x.write(121, 2);
        dueRemove(121, 1);
        dueMark(0, 121, -1);
        removeFails(121, NoSuchElementException.class);
        removeFails(1121, NoSuchElementException.class);
        dueMarks(0, 3);
        x.write(121, 3);
        dueLayer(2);
        x.write(31, 4);
        dueRemove(31, 1);
        dueMark(1, 31, -1);
        dueMark(1, 1, 1);
        dueRemove(21, 2);
        dueMark(1, 21, 3);
        dueKind(121, 2, -1);
        dueKind(121, 1, 0);
        removeFails(21, NoSuchElementException.class);
        removeFails(121, NoSuchElementException.class);
        dueMarks(1, 2);
        x.write(41, 5);
        dueRemove(1, 3);
        dueMark(1, 1, 3);
        dueMarks(1, 1);
        removeFails(1, NoSuchElementException.class);
        dueNames(0, 2, 0);
        dueNames(0, 1, 2);
    }

    private static void removeCounts() {
        fresh();
        x.make(1);
        int made = 1;
        for (int a = 1; a <= 9; a++) {
            x.make(10 * a + 1);
            x.make(900 + 10 * a + 1);
            made += 2;
            for (int b = 1; b <= 9; b++) {
                x.write(1000 * b + 900 + 10 * a + 1, b);
                made++;
            }
        }
        x.make(2);
        dueMarks(0, made + 1);
        dueLayer(2);
        dueRemove(911, 10);
        dueRemove(21, 11);
        dueRemove(1, made - 21);
        dueRemove(2, 1);
        dueMarks(1, 2);
    }

    private static void move() {
        fresh();
        moveFails(0, 1, IllegalArgumentException.class);
        moveFails(1, 0, IllegalArgumentException.class);
        moveFails(1, 2, NoSuchElementException.class);
        moveFails(1, 1, NoSuchElementException.class);
        x.make(1);
        x.write(11, 7);
        x.write(2, 8);
        moveFails(1, 3, NoSuchElementException.class);
        moveFails(1, 1, NoSuchElementException.class);
        moveFails(2, 1, IllegalStateException.class);
        moveFails(2, 13, IllegalStateException.class);
        moveFails(2, 12, IllegalStateException.class);
        moveFails(11, 1, IllegalStateException.class);
        moveFails(11, 111, IllegalStateException.class);
        dueMarks(0, 3);
        x.move(11, 2);
        dueValue(2, 1, 7);
        dueKind(11, 1, -1);
        dueMarks(0, 2);
        dueLayer(2);
        x.move(2, 2);
        dueMarks(1, 0);
        x.move(2, 91);
        dueMark(1, 2, 3);
        dueMark(1, 1, 1);
        dueMark(1, 91, 0);
        dueMarks(1, 3);
        dueValue(91, 2, 7);
        dueValue(2, 1, 7);
        dueLayer(3);
        x.move(91, 2);
        dueMark(2, 91, 3);
        dueMark(2, 1, 1);
        dueMark(2, 2, 0);
        dueMarks(2, 3);
        x.move(2, 91);
        dueMark(2, 2, -1);
        dueMark(2, 91, 0);
        dueValue(91, 3, 7);
    }

    private static void layer() {
        fresh();
        x.write(1, 1);
        for (int n = 2; n <= 8; n++) {
            dueLayer(n);
            dueMarks(n - 1, 0);
            dueKind(1, n, 0);
            x.write(1, n);
        }
        Check.fails("layer()", UnsupportedOperationException.class, () -> x.layer());
        for (int n = 1; n <= 8; n++) {
            dueValue(1, n, n);
        }
        kindFails(1, 9);
        dueDrop(7);
        dueLayer(8);
        dueMarks(7, 0);
        dueValue(1, 8, 7);
        Check.fails("layer()", UnsupportedOperationException.class, () -> x.layer());
    }

    private static void squash() {
        fresh();
        squashFails(0);
        squashFails(-1);
        for (int n = 2; n <= 8; n++) {
            x.write(n, n);
            x.layer();
        }
        squashFails(-1);
        squashFails(7);
        squashFails(8);
        squashFails(Integer.MAX_VALUE);
        squashFails(Integer.MIN_VALUE);
        dueSquash(2, 7);
        dueMarks(2, 2);
        dueMark(2, 4, 0);
        dueMark(2, 5, 0);
        dueMark(3, 6, 0);
        dueMarks(6, 0);
        squashFails(6);
        dueSquash(5, 6);
        dueSquash(0, 5);
        dueMarks(0, 2);
        dueNames(0, 5, 0x1FC);
        kindFails(0, 6);
        dueWrite(9, 9, true);
        dueMark(4, 9, 0);
        for (int n = 4; n >= 1; n--) {
            dueSquash(0, n);
        }
        squashFails(0);
        dueNames(0, 1, 0x3FC);
        dueValue(9, 1, 9);
    }

    /** What becomes of each mark of layer k below each mark of layer k + 1 at the same path. */
    private static void squashTable() {
        fresh();
        for (int name = 1; name <= 9; name++) {
            x.make(name);
            x.write(10 + name, name);
        }
        dueLayer(2);
        x.remove(1);
        x.remove(2);
        x.write(2, 22);
        x.remove(3);
        x.make(3);
        x.write(23, 3);
        x.write(24, 4);
        x.remove(5);
        x.write(26, 6);
        x.remove(7);
        x.make(7);
        x.write(37, 6);
        x.remove(8);
        x.write(8, 8);
        dueLayer(3);
        x.make(1);
        x.remove(2);
        x.make(2);
        x.write(33, 33);
        x.write(34, 34);
        x.write(5, 55);
        x.remove(6);
        x.remove(7);
        dueMark(2, 1, 1);
        dueMark(2, 2, 2);
        dueMark(2, 3, 1);
        dueMark(2, 4, 1);
        dueSquash(1, 2);
        dueMark(1, 1, 2);
        dueNames(1, 2, 0);
        dueMark(1, 2, 2);
        dueNames(2, 2, 0);
        dueMark(1, 3, 2);
        dueNames(3, 2, 12);
        dueMark(1, 4, 1);
        dueNames(4, 2, 14);
        dueMark(1, 5, 0);
        dueValue(5, 2, 55);
        dueMark(1, 6, 3);
        dueMark(1, 26, -1);
        dueMark(1, 7, 3);
        dueMark(1, 37, -1);
        dueMark(1, 8, 0);
        dueValue(8, 2, 8);
        dueMark(1, 9, -1);
        dueNames(9, 2, 2);
        dueMarks(1, 12);
    }

    /** Below an opaque mark of k + 1 those of k don't stay, but still make directories opaque. */
    private static void squashBelowHidingMarks() {
        fresh();
        x.make(1);
        x.make(11);
        x.write(21, 1);
        x.make(31);
        x.write(131, 1);
        dueLayer(2);
        x.remove(11);
        x.write(231, 2);
        dueLayer(3);
        x.remove(1);
        x.make(1);
        x.make(11);
        x.make(31);
        x.make(131);
        dueMark(2, 1, 2);
        dueMark(2, 11, 1);
        dueMark(2, 31, 2);
        dueMark(2, 131, 2);
        dueSquash(1, 2);
        dueMark(1, 1, 2);
        dueMark(1, 11, 2);
        dueMark(1, 31, 2);
        dueMark(1, 131, 2);
        dueMark(1, 231, -1);
        dueMarks(1, 4);
        dueNames(1, 2, 10);
        dueNames(31, 2, 2);
        dueNames(1, 1, 14);
    }

    /** The longest paths and the last name take part in a squash too. */
    private static void squashDeep() {
        fresh();
        x.make(9);
        x.make(99);
        x.make(999);
        x.write(9999, 1);
        x.write(1999, 2);
        x.make(2999);
        x.write(4999, 4);
        x.write(199, 3);
        x.write(19, 4);
        dueLayer(2);
        dueRemove(9999, 1);
        dueRemove(2999, 1);
        dueWrite(3999, 5, true);
        dueLayer(3);
        x.make(2999);
        dueWrite(9999, 6, true);
        dueRemove(1999, 1);
        dueMark(2, 2999, 1);
        dueSquash(1, 2);
        dueMark(1, 999, 1);
        dueMark(1, 1999, 3);
        dueMark(1, 2999, 2);
        dueMark(1, 3999, 0);
        dueMark(1, 9999, 0);
        dueMarks(1, 7);
        dueNames(999, 2, 0x21C);
        dueSquash(0, 1);
        dueMark(0, 1999, 3);
        dueMarks(0, 10);
        dueNames(999, 1, 0x21C);
        dueNames(99, 1, 0x202);
        dueNames(9, 1, 0x202);
        dueValue(9999, 1, 6);
        dueValue(4999, 1, 4);
        dueRemove(9, 9);
        fresh();
        x.write(9, 1);
        dueLayer(2);
        dueSquash(0, 1);
        dueValue(9, 1, 1);
    }

    private static void drop() {
        fresh();
        Check.fails("drop()", UnsupportedOperationException.class, () -> x.drop());
        x.write(1, 1);
        dueLayer(2);
        x.write(1, 2);
        x.write(2, 2);
        dueLayer(3);
        x.remove(1);
        dueDrop(2);
        dueValue(1, 2, 2);
        dueDrop(1);
        dueValue(1, 1, 1);
        dueKind(2, 1, -1);
        dueMarks(0, 1);
        Check.fails("drop()", UnsupportedOperationException.class, () -> x.drop());
        dueMarks(0, 1);
        dueLayer(2);
        dueMarks(1, 0);
    }

    private static void kind() {
        fresh();
        x.make(1);
        x.write(11, 1);
        dueLayer(2);
        x.remove(11);
        dueLayer(3);
        x.remove(1);
        dueLayer(4);
        x.write(1, 4);
        dueLayer(5);
        x.remove(1);
        x.make(1);
        int[] ones = {1, 1, -1, 0, 1};
        int[] elevens = {0, -1, -1, -1, -1};
        for (int n = 1; n <= 5; n++) {
            dueKind(0, n, 1);
            dueKind(1, n, ones[n - 1]);
            dueKind(11, n, elevens[n - 1]);
            dueKind(111, n, -1);
            dueKind(1111, n, -1);
        }
        kindFails(1, 0);
        kindFails(0, 0);
        kindFails(1, 6);
        for (int n : NO_LAYERS) {
            kindFails(1, n);
        }
    }

    private static void value() {
        fresh();
        x.make(1);
        x.write(11, 5);
        dueLayer(2);
        x.write(11, -5);
        dueLayer(3);
        x.remove(1);
        dueValue(11, 1, 5);
        dueValue(11, 2, -5);
        valueFails(11, 3, NoSuchElementException.class);
        valueFails(1, 1, NoSuchElementException.class);
        valueFails(0, 1, NoSuchElementException.class);
        valueFails(2, 1, NoSuchElementException.class);
        valueFails(111, 1, NoSuchElementException.class);
        valueFails(11, 0, IllegalArgumentException.class);
        valueFails(11, 4, IllegalArgumentException.class);
        for (int n : NO_LAYERS) {
            valueFails(11, n, IllegalArgumentException.class);
        }
    }

    private static void names() {
        fresh();
        for (int name = 1; name <= 9; name++) {
            x.write(name, name);
        }
        dueNames(0, 1, 0x3FE);
        namesFails(1, 1, NoSuchElementException.class);
        namesFails(11, 1, NoSuchElementException.class);
        dueLayer(2);
        x.remove(9);
        x.remove(1);
        x.make(1);
        x.make(91);
        x.make(191);
        x.make(9191);
        x.write(5191, 1);
        dueNames(0, 2, 0x1FE);
        dueNames(0, 1, 0x3FE);
        dueNames(1, 2, 0x200);
        dueNames(91, 2, 2);
        dueNames(191, 2, 0x220);
        dueNames(9191, 2, 0);
        namesFails(5191, 2, NoSuchElementException.class);
        namesFails(9, 2, NoSuchElementException.class);
        namesFails(1, 1, NoSuchElementException.class);
        namesFails(0, 0, IllegalArgumentException.class);
        namesFails(0, 3, IllegalArgumentException.class);
        for (int n : NO_LAYERS) {
            namesFails(0, n, IllegalArgumentException.class);
        }
    }

    private static void mark() {
        fresh();
        x.make(1);
        x.write(11, 1);
        dueLayer(2);
        dueMark(1, 1, -1);
        x.remove(1);
        dueMark(1, 1, 3);
        x.make(1);
        dueMark(1, 1, 2);
        dueMark(0, 1, 1);
        dueMark(0, 11, 0);
        dueMark(1, 11, -1);
        dueMark(0, 111, -1);
        dueMark(0, 1111, -1);
        dueMark(0, 9999, -1);
        markFails(0, 0, IllegalArgumentException.class);
        markFails(2, 1, IndexOutOfBoundsException.class);
        for (int layer : NO_LAYERS) {
            markFails(layer, 1, IndexOutOfBoundsException.class);
        }
    }

    private static void marks() {
        fresh();
        dueMarks(0, 0);
        x.make(1);
        x.make(11);
        x.make(111);
        x.write(1111, 1);
        dueMarks(0, 4);
        dueLayer(2);
        dueMarks(1, 0);
        x.remove(1111);
        dueMarks(1, 4);
        x.remove(11);
        dueMarks(1, 2);
        dueMarks(0, 4);
        Check.fails("marks(2)", IndexOutOfBoundsException.class, () -> x.marks(2));
        for (int layer : NO_LAYERS) {
            Check.fails("marks(" + layer + ")", IndexOutOfBoundsException.class, () -> x.marks(layer));
        }
    }

    /** The view below the top layer counts for a new mark, even where the top one hides it. */
    private static void opaqueBelowOpaque() {
        fresh();
        x.make(1);
        x.write(11, 1);
        x.write(21, 1);
        dueLayer(2);
        dueRemove(1, 3);
        x.make(1);
        x.make(11);
        dueMark(1, 11, 2);
        dueWrite(21, 2, true);
        dueRemove(21, 1);
        dueMark(1, 21, 3);
        dueWrite(31, 3, true);
        dueRemove(31, 1);
        dueMark(1, 31, -1);
        dueNames(1, 2, 2);
    }

    /** Where several are due, the one that the document names first is thrown. */
    private static void orderOfExceptions() {
        fresh();
        markFails(1, 0, IndexOutOfBoundsException.class);
        markFails(-1, 10, IndexOutOfBoundsException.class);
        moveFails(1, 10, IllegalArgumentException.class);
        moveFails(1, 23, NoSuchElementException.class);
        valueFails(1, 0, IllegalArgumentException.class);
        namesFails(10, 1, IllegalArgumentException.class);
        dueMarks(0, 0);
    }
}
