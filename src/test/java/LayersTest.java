import java.util.List;

/** A test for each sentence of promises 1 and 6 to 8 (a new object, layer, squash, drop), at its boundaries. */
public final class LayersTest {
    private static final int NONE = OverlayTree.NONE;
    private static final int FILE = 0;
    private static final int DIRECTORY = 1;

    private LayersTest() {
    }

    public static void main(String[] args) {
        Check.sentence("OverlayTree(): One layer", LayersTest::newHasOneLayer);
        Check.sentence("OverlayTree(): without marks", LayersTest::newHasNoMarks);
        Check.sentence("layer: A new layer on top", LayersTest::layerOnTop);
        Check.sentence("layer: how many there are", LayersTest::layerCounts);
        Check.sentence("layer: UnsupportedOperationException if there are eight", LayersTest::layerOverEight);
        Check.sentence("squash: Squashes layers k and k + 1 (the lowest two)", LayersTest::squashLowest);
        Check.sentence("squash: Squashes layers k and k + 1 (the top two)", LayersTest::squashTop);
        Check.sentence("squash: how many there are", LayersTest::squashCounts);
        Check.sentence("squash: IndexOutOfBoundsException if there are no such two", LayersTest::squashNoSuchTwo);
        Check.sentence("drop: The top layer goes (what is written is lost)", LayersTest::dropLoses);
        Check.sentence("drop: how many there are", LayersTest::dropCounts);
        Check.sentence("drop: UnsupportedOperationException if it is the only one", LayersTest::dropTheOnlyOne);
        Check.end();
    }

    /** So many layers, each with a file of its own: name n in layer n - 1. */
    private static Asker layers(int count) {
        Asker x = new Asker();
        x.write(1, 1);
        for (int n = 2; n <= count; n++) {
            x.layer();
            x.write(n, n);
        }
        return x;
    }

    private static void newHasOneLayer() {
        Asker x = new Asker();
        x.marks(0, 0);
        x.marksFails(1);
        x.markFails(1, 1, IndexOutOfBoundsException.class);
        x.kind(0, 1, DIRECTORY);
        x.kindFails(0, 2);
        x.squashFails(0);
        x.dropFails();
        x.layer(2);
    }

    private static void newHasNoMarks() {
        layers(8);
        Asker x = new Asker();
        x.marks(0, 0);
        x.names(0, 1, 0);
        for (int name = 1; name <= 9; name++) {
            x.mark(0, name, NONE);
            x.mark(0, 1111 * name, NONE);
            x.kind(name, 1, NONE);
        }
    }

    private static void layerOnTop() {
        Asker x = layers(3);
        List<List<Long>> views = x.views();
        x.layer();
        views.add(views.get(2));
        Check.holds("a new layer shows what those below it show", x.views().equals(views));
        x.marks(3, 0);
        x.write(9, 9);
        x.mark(3, 9, FILE);
        x.marks(3, 1);
        x.marks(2, 1);
        x.kind(9, 4, FILE);
        x.kind(9, 3, NONE);
        x.drop(3);
        x.layer(4);
        x.marks(3, 0);
        x.kind(9, 4, NONE);
    }

    private static void layerCounts() {
        Asker x = new Asker();
        for (int n = 2; n <= 8; n++) {
            x.layer(n);
        }
        x.drop(7);
        x.layer(8);
        x.squash(3, 7);
        x.layer(8);
    }

    private static void layerOverEight() {
        Asker x = layers(7);
        x.layer(8);
        x.layerFails();
        x.layerFails();
        x.marks(7, 0);
        x.marksFails(8);
        x.write(8, 8, true);
        x.layerFails();
        x.drop(7);
        x.layer(8);
        x.layerFails();
        x.squash(0, 7);
        x.layer(8);
        x.layerFails();
    }

    private static void squashLowest() {
        Asker x = layers(8);
        x.squash(0, 7);
        x.marks(0, 2);
        x.mark(0, 1, FILE);
        x.mark(0, 2, FILE);
        for (int layer = 1; layer < 7; layer++) {
            x.marks(layer, 1);
            x.mark(layer, layer + 2, FILE);
        }
        x.marksFails(7);
        x.names(0, 1, 1 << 1 | 1 << 2);
        x.names(0, 7, 0x1FE);
    }

    private static void squashTop() {
        Asker x = layers(8);
        x.squash(6, 7);
        for (int layer = 0; layer < 6; layer++) {
            x.marks(layer, 1);
            x.mark(layer, layer + 1, FILE);
        }
        x.marks(6, 2);
        x.mark(6, 7, FILE);
        x.mark(6, 8, FILE);
        x.marksFails(7);
        x.write(9, 9, true);
        x.mark(6, 9, FILE);
        x.names(0, 6, 0x7E);
        x.names(0, 7, 0x3FE);
    }

    private static void squashCounts() {
        for (int k = 0; k < 7; k++) {
            Asker x = layers(8);
            x.squash(k, 7);
            x.marks(k, 2);
            x.names(0, 7, 0x1FE);
        }
        Asker x = layers(8);
        for (int n = 7; n >= 1; n--) {
            x.squash(n - 1, n);
            x.marks(n - 1, 9 - n);
        }
        x.names(0, 1, 0x1FE);
    }

    private static void squashNoSuchTwo() {
        for (int count = 1; count <= 8; count++) {
            Asker x = layers(count);
            int[] wrong = {-1, count - 1, count, 8, Integer.MIN_VALUE, Integer.MAX_VALUE, Integer.MAX_VALUE - 1};
            for (int k : wrong) {
                x.squashFails(k);
            }
        }
        Asker x = layers(2);
        x.squash(0, 1);
        x.squashFails(0);
        x = layers(8);
        x.drop(7);
        x.squashFails(6);
        x.squash(5, 6);
        x.squashFails(5);
    }

    private static void dropLoses() {
        Asker x = layers(3);
        List<Long> before = x.state();
        x.layer();
        x.write(1, 10);
        x.remove(2);
        x.remove(3);
        x.make(3, 9);
        x.drop(3);
        Check.holds("all is as before the dropped layer", x.state().equals(before));
        x.drop(2);
        x.kind(3, 2, NONE);
        x.drop(1);
        x.names(0, 1, 1 << 1);
        x.marks(0, 1);
        x.write(2, 2, true);
        x.mark(0, 2, FILE);
    }

    private static void dropCounts() {
        Asker x = layers(8);
        for (int n = 7; n >= 1; n--) {
            x.drop(n);
            x.marksFails(n);
            x.marks(n - 1, 1);
            x.kindFails(0, n + 1);
        }
    }

    private static void dropTheOnlyOne() {
        new Asker().dropFails();
        Asker x = layers(1);
        x.dropFails();
        x.value(1, 1, 1);
        x.layer(2);
        x.drop(1);
        x.dropFails();
        x = layers(2);
        x.squash(0, 1);
        x.dropFails();
        x.names(0, 1, 1 << 1 | 1 << 2);
    }
}
