import java.util.NoSuchElementException;

/** The promises one by one: ordinary inputs, the edges that the document names, wrong inputs. */
public final class PromiseTest {
    private static final int[] PATHS = {0, 1, 9, 11, 12, 99, 111, 342, 999, 1111, 4321, 9999};
    private static final int[] NO_LAYERS = {-1, Integer.MIN_VALUE, 8, 9, Integer.MAX_VALUE};

    private static Asker x;

    private PromiseTest() {
    }

    public static void main(String[] args) {
        newObject();
        paths();
        write();
        make();
        remove();
        removeCounts();
        move();
        layer();
        squash();
        squashTable();
        squashBelowHidingMarks();
        squashDeep();
        drop();
        kind();
        value();
        names();
        mark();
        marks();
        opaqueBelowOpaque();
        orderOfExceptions();
        Check.end();
    }

    private static void fresh() {
        x = new Asker();
    }

    private static void newObject() {
        fresh();
        Check.same("NONE", OverlayTree.NONE, -1);
        x.marks(0, 0);
        x.names(0, 1, 0);
        x.kind(0, 1, 1);
        x.kindFails(0, 2);
        x.marksFails(1);
        x.write(1, 1);
        fresh();
        x.marks(0, 0);
    }

    private static void paths() {
        fresh();
        for (int path : Asker.NO_PATHS) {
            x.kindFails(path, 1);
            x.valueFails(path, 1, IllegalArgumentException.class);
            x.namesFails(path, 1, IllegalArgumentException.class);
            x.markFails(0, path, IllegalArgumentException.class);
            x.writeFails(path, IllegalArgumentException.class);
            x.makeFails(path, IllegalArgumentException.class);
            x.removeFails(path, IllegalArgumentException.class);
            x.moveFails(path, 1, IllegalArgumentException.class);
        }
        for (int path : PATHS) {
            x.kind(path, 1, path == 0 ? 1 : -1);
        }
        x.write(1, 1);
        for (int path : Asker.NO_PATHS) {
            x.moveFails(1, path, IllegalArgumentException.class);
        }
        x.marks(0, 1);
    }

    private static void write() {
        fresh();
        x.write(9, Integer.MIN_VALUE, true);
        x.value(9, 1, Integer.MIN_VALUE);
        x.write(9, Integer.MAX_VALUE, false);
        x.value(9, 1, Integer.MAX_VALUE);
        x.write(9, -1, false);
        x.value(9, 1, -1);
        x.writeFails(0, IllegalArgumentException.class);
        x.writeFails(19, IllegalStateException.class);
        x.writeFails(12, IllegalStateException.class);
        x.make(2);
        x.writeFails(2, IllegalStateException.class);
        x.writeFails(312, IllegalStateException.class);
        x.marks(0, 2);
        x.make(12);
        x.make(312);
        x.write(4312, 5, true);
        x.layer(2);
        x.write(4312, 5, false);
        x.mark(1, 2, 1);
        x.mark(1, 12, 1);
        x.mark(1, 312, 1);
        x.mark(1, 4312, 0);
        x.marks(1, 4);
        x.write(4312, 6, false);
        x.value(4312, 1, 5);
        x.value(4312, 2, 6);
        x.remove(4312, 1);
        x.mark(1, 4312, 3);
        x.write(4312, 7, true);
        x.mark(1, 4312, 0);
        x.marks(1, 4);
    }

    private static void make() {
        fresh();
        x.makeFails(0, IllegalArgumentException.class);
        x.makeFails(11, IllegalStateException.class);
        x.make(1);
        x.makeFails(1, IllegalStateException.class);
        x.make(11);
        x.make(111);
        x.make(1111);
        x.kind(1111, 1, 1);
        x.mark(0, 1111, 1);
        x.write(2, 1);
        x.makeFails(2, IllegalStateException.class);
        x.makeFails(12, IllegalStateException.class);
        x.marks(0, 5);
        x.layer(2);
        x.makeFails(1, IllegalStateException.class);
        x.makeFails(2, IllegalStateException.class);
        x.make(21);
        x.mark(1, 21, 1);
        x.mark(1, 1, 1);
        x.remove(2, 1);
        x.mark(1, 2, 3);
        x.make(2);
        x.mark(1, 2, 2);
        x.make(12);
        x.mark(1, 12, 1);
        x.names(2, 2, 2);
        x.remove(1111, 1);
        x.make(1111);
        x.mark(1, 1111, 2);
        x.mark(1, 1, 1);
        x.mark(1, 11, 1);
        x.mark(1, 111, 1);
        x.remove(21, 1);
        x.make(21);
        x.mark(1, 21, 1);
    }

    private static void remove() {
        fresh();
        x.removeFails(0, IllegalArgumentException.class);
        x.removeFails(1, NoSuchElementException.class);
        x.make(1);
        x.write(11, 1);
        x.make(21);
        x.write(121, 2);
        x.remove(121, 1);
        x.mark(0, 121, -1);
        x.removeFails(121, NoSuchElementException.class);
        x.removeFails(1121, NoSuchElementException.class);
        x.marks(0, 3);
        x.write(121, 3);
        x.layer(2);
        x.write(31, 4);
        x.remove(31, 1);
        x.mark(1, 31, -1);
        x.mark(1, 1, 1);
        x.remove(21, 2);
        x.mark(1, 21, 3);
        x.kind(121, 2, -1);
        x.kind(121, 1, 0);
        x.removeFails(21, NoSuchElementException.class);
        x.removeFails(121, NoSuchElementException.class);
        x.marks(1, 2);
        x.write(41, 5);
        x.remove(1, 3);
        x.mark(1, 1, 3);
        x.marks(1, 1);
        x.removeFails(1, NoSuchElementException.class);
        x.names(0, 2, 0);
        x.names(0, 1, 2);
    }

    private static void removeCounts() {
        fresh();
        x.make(1);
        int made = 1;
        for (int a = 1; a <= 9; a++) {
            x.make(10 * a + 1);
            x.make(900 + 10 * a + 1);
            made += 2;
            for (int b = 1; b <= 9; b++) {
                x.write(1000 * b + 900 + 10 * a + 1, b);
                made++;
            }
        }
        x.make(2);
        x.marks(0, made + 1);
        x.layer(2);
        x.remove(911, 10);
        x.remove(21, 11);
        x.remove(1, made - 21);
        x.remove(2, 1);
        x.marks(1, 2);
    }

    private static void move() {
        fresh();
        x.moveFails(0, 1, IllegalArgumentException.class);
        x.moveFails(1, 0, IllegalArgumentException.class);
        x.moveFails(1, 2, NoSuchElementException.class);
        x.moveFails(1, 1, NoSuchElementException.class);
        x.make(1);
        x.write(11, 7);
        x.write(2, 8);
        x.moveFails(1, 3, NoSuchElementException.class);
        x.moveFails(1, 1, NoSuchElementException.class);
        x.moveFails(2, 1, IllegalStateException.class);
        x.moveFails(2, 13, IllegalStateException.class);
        x.moveFails(2, 12, IllegalStateException.class);
        x.moveFails(11, 1, IllegalStateException.class);
        x.moveFails(11, 111, IllegalStateException.class);
        x.marks(0, 3);
        x.move(11, 2);
        x.value(2, 1, 7);
        x.kind(11, 1, -1);
        x.marks(0, 2);
        x.layer(2);
        x.move(2, 2);
        x.marks(1, 0);
        x.move(2, 91);
        x.mark(1, 2, 3);
        x.mark(1, 1, 1);
        x.mark(1, 91, 0);
        x.marks(1, 3);
        x.value(91, 2, 7);
        x.value(2, 1, 7);
        x.layer(3);
        x.move(91, 2);
        x.mark(2, 91, 3);
        x.mark(2, 1, 1);
        x.mark(2, 2, 0);
        x.marks(2, 3);
        x.move(2, 91);
        x.mark(2, 2, -1);
        x.mark(2, 91, 0);
        x.value(91, 3, 7);
    }

    private static void layer() {
        fresh();
        x.write(1, 1);
        for (int n = 2; n <= 8; n++) {
            x.layer(n);
            x.marks(n - 1, 0);
            x.kind(1, n, 0);
            x.write(1, n);
        }
        x.layerFails();
        for (int n = 1; n <= 8; n++) {
            x.value(1, n, n);
        }
        x.kindFails(1, 9);
        x.drop(7);
        x.layer(8);
        x.marks(7, 0);
        x.value(1, 8, 7);
        x.layerFails();
    }

    private static void squash() {
        fresh();
        x.squashFails(0);
        x.squashFails(-1);
        for (int n = 2; n <= 8; n++) {
            x.write(n, n);
            x.layer();
        }
        x.squashFails(-1);
        x.squashFails(7);
        x.squashFails(8);
        x.squashFails(Integer.MAX_VALUE);
        x.squashFails(Integer.MIN_VALUE);
        x.squash(2, 7);
        x.marks(2, 2);
        x.mark(2, 4, 0);
        x.mark(2, 5, 0);
        x.mark(3, 6, 0);
        x.marks(6, 0);
        x.squashFails(6);
        x.squash(5, 6);
        x.squash(0, 5);
        x.marks(0, 2);
        x.names(0, 5, 0x1FC);
        x.kindFails(0, 6);
        x.write(9, 9, true);
        x.mark(4, 9, 0);
        for (int n = 4; n >= 1; n--) {
            x.squash(0, n);
        }
        x.squashFails(0);
        x.names(0, 1, 0x3FC);
        x.value(9, 1, 9);
    }

    /** What becomes of each mark of layer k below each mark of layer k + 1 at the same path. */
    private static void squashTable() {
        fresh();
        for (int name = 1; name <= 9; name++) {
            x.make(name);
            x.write(10 + name, name);
        }
        x.layer(2);
        x.remove(1);
        x.remove(2);
        x.write(2, 22);
        x.remove(3);
        x.make(3);
        x.write(23, 3);
        x.write(24, 4);
        x.remove(5);
        x.write(26, 6);
        x.remove(7);
        x.make(7);
        x.write(37, 6);
        x.remove(8);
        x.write(8, 8);
        x.layer(3);
        x.make(1);
        x.remove(2);
        x.make(2);
        x.write(33, 33);
        x.write(34, 34);
        x.write(5, 55);
        x.remove(6);
        x.remove(7);
        x.mark(2, 1, 1);
        x.mark(2, 2, 2);
        x.mark(2, 3, 1);
        x.mark(2, 4, 1);
        x.squash(1, 2);
        x.mark(1, 1, 2);
        x.names(1, 2, 0);
        x.mark(1, 2, 2);
        x.names(2, 2, 0);
        x.mark(1, 3, 2);
        x.names(3, 2, 12);
        x.mark(1, 4, 1);
        x.names(4, 2, 14);
        x.mark(1, 5, 0);
        x.value(5, 2, 55);
        x.mark(1, 6, 3);
        x.mark(1, 26, -1);
        x.mark(1, 7, 3);
        x.mark(1, 37, -1);
        x.mark(1, 8, 0);
        x.value(8, 2, 8);
        x.mark(1, 9, -1);
        x.names(9, 2, 2);
        x.marks(1, 12);
    }

    /** Below an opaque mark of k + 1 those of k don't stay, but still make directories opaque. */
    private static void squashBelowHidingMarks() {
        fresh();
        x.make(1);
        x.make(11);
        x.write(21, 1);
        x.make(31);
        x.write(131, 1);
        x.layer(2);
        x.remove(11);
        x.write(231, 2);
        x.layer(3);
        x.remove(1);
        x.make(1);
        x.make(11);
        x.make(31);
        x.make(131);
        x.mark(2, 1, 2);
        x.mark(2, 11, 1);
        x.mark(2, 31, 2);
        x.mark(2, 131, 2);
        x.squash(1, 2);
        x.mark(1, 1, 2);
        x.mark(1, 11, 2);
        x.mark(1, 31, 2);
        x.mark(1, 131, 2);
        x.mark(1, 231, -1);
        x.marks(1, 4);
        x.names(1, 2, 10);
        x.names(31, 2, 2);
        x.names(1, 1, 14);
    }

    /** The longest paths and the last name take part in a squash too. */
    private static void squashDeep() {
        fresh();
        x.make(9);
        x.make(99);
        x.make(999);
        x.write(9999, 1);
        x.write(1999, 2);
        x.make(2999);
        x.write(4999, 4);
        x.write(199, 3);
        x.write(19, 4);
        x.layer(2);
        x.remove(9999, 1);
        x.remove(2999, 1);
        x.write(3999, 5, true);
        x.layer(3);
        x.make(2999);
        x.write(9999, 6, true);
        x.remove(1999, 1);
        x.mark(2, 2999, 1);
        x.squash(1, 2);
        x.mark(1, 999, 1);
        x.mark(1, 1999, 3);
        x.mark(1, 2999, 2);
        x.mark(1, 3999, 0);
        x.mark(1, 9999, 0);
        x.marks(1, 7);
        x.names(999, 2, 0x21C);
        x.squash(0, 1);
        x.mark(0, 1999, 3);
        x.marks(0, 10);
        x.names(999, 1, 0x21C);
        x.names(99, 1, 0x202);
        x.names(9, 1, 0x202);
        x.value(9999, 1, 6);
        x.value(4999, 1, 4);
        x.remove(9, 9);
        fresh();
        x.write(9, 1);
        x.layer(2);
        x.squash(0, 1);
        x.value(9, 1, 1);
    }

    private static void drop() {
        fresh();
        x.dropFails();
        x.write(1, 1);
        x.layer(2);
        x.write(1, 2);
        x.write(2, 2);
        x.layer(3);
        x.remove(1);
        x.drop(2);
        x.value(1, 2, 2);
        x.drop(1);
        x.value(1, 1, 1);
        x.kind(2, 1, -1);
        x.marks(0, 1);
        x.dropFails();
        x.marks(0, 1);
        x.layer(2);
        x.marks(1, 0);
    }

    private static void kind() {
        fresh();
        x.make(1);
        x.write(11, 1);
        x.layer(2);
        x.remove(11);
        x.layer(3);
        x.remove(1);
        x.layer(4);
        x.write(1, 4);
        x.layer(5);
        x.remove(1);
        x.make(1);
        int[] ones = {1, 1, -1, 0, 1};
        int[] elevens = {0, -1, -1, -1, -1};
        for (int n = 1; n <= 5; n++) {
            x.kind(0, n, 1);
            x.kind(1, n, ones[n - 1]);
            x.kind(11, n, elevens[n - 1]);
            x.kind(111, n, -1);
            x.kind(1111, n, -1);
        }
        x.kindFails(1, 0);
        x.kindFails(0, 0);
        x.kindFails(1, 6);
        for (int n : NO_LAYERS) {
            x.kindFails(1, n);
        }
    }

    private static void value() {
        fresh();
        x.make(1);
        x.write(11, 5);
        x.layer(2);
        x.write(11, -5);
        x.layer(3);
        x.remove(1);
        x.value(11, 1, 5);
        x.value(11, 2, -5);
        x.valueFails(11, 3, NoSuchElementException.class);
        x.valueFails(1, 1, NoSuchElementException.class);
        x.valueFails(0, 1, NoSuchElementException.class);
        x.valueFails(2, 1, NoSuchElementException.class);
        x.valueFails(111, 1, NoSuchElementException.class);
        x.valueFails(11, 0, IllegalArgumentException.class);
        x.valueFails(11, 4, IllegalArgumentException.class);
        for (int n : NO_LAYERS) {
            x.valueFails(11, n, IllegalArgumentException.class);
        }
    }

    private static void names() {
        fresh();
        for (int name = 1; name <= 9; name++) {
            x.write(name, name);
        }
        x.names(0, 1, 0x3FE);
        x.namesFails(1, 1, NoSuchElementException.class);
        x.namesFails(11, 1, NoSuchElementException.class);
        x.layer(2);
        x.remove(9);
        x.remove(1);
        x.make(1);
        x.make(91);
        x.make(191);
        x.make(9191);
        x.write(5191, 1);
        x.names(0, 2, 0x1FE);
        x.names(0, 1, 0x3FE);
        x.names(1, 2, 0x200);
        x.names(91, 2, 2);
        x.names(191, 2, 0x220);
        x.names(9191, 2, 0);
        x.namesFails(5191, 2, NoSuchElementException.class);
        x.namesFails(9, 2, NoSuchElementException.class);
        x.namesFails(1, 1, NoSuchElementException.class);
        x.namesFails(0, 0, IllegalArgumentException.class);
        x.namesFails(0, 3, IllegalArgumentException.class);
        for (int n : NO_LAYERS) {
            x.namesFails(0, n, IllegalArgumentException.class);
        }
    }

    private static void mark() {
        fresh();
        x.make(1);
        x.write(11, 1);
        x.layer(2);
        x.mark(1, 1, -1);
        x.remove(1);
        x.mark(1, 1, 3);
        x.make(1);
        x.mark(1, 1, 2);
        x.mark(0, 1, 1);
        x.mark(0, 11, 0);
        x.mark(1, 11, -1);
        x.mark(0, 111, -1);
        x.mark(0, 1111, -1);
        x.mark(0, 9999, -1);
        x.markFails(0, 0, IllegalArgumentException.class);
        x.markFails(2, 1, IndexOutOfBoundsException.class);
        for (int layer : NO_LAYERS) {
            x.markFails(layer, 1, IndexOutOfBoundsException.class);
        }
    }

    private static void marks() {
        fresh();
        x.marks(0, 0);
        x.make(1);
        x.make(11);
        x.make(111);
        x.write(1111, 1);
        x.marks(0, 4);
        x.layer(2);
        x.marks(1, 0);
        x.remove(1111);
        x.marks(1, 4);
        x.remove(11);
        x.marks(1, 2);
        x.marks(0, 4);
        x.marksFails(2);
        for (int layer : NO_LAYERS) {
            x.marksFails(layer);
        }
    }

    /** The view below the top layer counts for a new mark, even where the top one hides it. */
    private static void opaqueBelowOpaque() {
        fresh();
        x.make(1);
        x.write(11, 1);
        x.write(21, 1);
        x.layer(2);
        x.remove(1, 3);
        x.make(1);
        x.make(11);
        x.mark(1, 11, 2);
        x.write(21, 2, true);
        x.remove(21, 1);
        x.mark(1, 21, 3);
        x.write(31, 3, true);
        x.remove(31, 1);
        x.mark(1, 31, -1);
        x.names(1, 2, 2);
    }

    /** Where several are due, the one that the document names first is thrown. */
    private static void orderOfExceptions() {
        fresh();
        x.markFails(1, 0, IndexOutOfBoundsException.class);
        x.markFails(-1, 10, IndexOutOfBoundsException.class);
        x.moveFails(1, 10, IllegalArgumentException.class);
        x.moveFails(1, 23, NoSuchElementException.class);
        x.valueFails(1, 0, IllegalArgumentException.class);
        x.namesFails(10, 1, IllegalArgumentException.class);
        x.marks(0, 0);
    }
}
