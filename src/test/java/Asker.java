import java.util.ArrayList;
import java.util.List;

/**
 * A new object and the run of calls on it. Every answer that is due is looked at, and every call that
 * must throw is held against "A call that throws changes nothing".
 */
final class Asker {
    /** One call on an object; one that answers nothing answers 0 here, a boolean 0 or 1. */
    interface Step {
        long on(OverlayTree tree);
    }

    /** The ways of a wrong number: negative, too long, a name behind a 0, cut or wrapped to a path. */
    static final int[] NO_PATHS = {
        -1, -9, -11, -1111, Integer.MIN_VALUE, Integer.MIN_VALUE + 1, 10, 20, 90, 100, 101, 110, 120, 909,
        1000, 1001, 1010, 1011, 1100, 1101, 2013, 9099, 9909, 9990, 10000, 10001, 11111, 12345, 65537,
        65547, 99999, 111111, Integer.MAX_VALUE
    };

    private final OverlayTree tree = new OverlayTree();
    private final List<Step> run = new ArrayList<>();

    private void add(Step step) {
        run.add(step);
        if (run.size() > State.MOST_CALLS) {
            throw new IllegalStateException("the test asks more calls than the document promises answers for");
        }
    }

    private void tell(Step step) {
        add(step);
        step.on(tree);
    }

    private void due(String what, long due, Step step) {
        add(step);
        Check.answers(what, due, () -> step.on(tree));
    }

    private void fails(String what, Class<? extends RuntimeException> due, Step step) {
        List<Long> before = State.after(run);
        add(step);
        Check.fails(what, due, () -> step.on(tree));
        Check.holds(what + " changes nothing", State.after(run).equals(before));
    }

    List<Long> state() {
        return State.after(run);
    }

    List<List<Long>> views() {
        return State.viewsAfter(run);
    }

    boolean parentsHaveMarks() {
        return State.parentsHaveMarksAfter(run);
    }

    int calls() {
        return run.size();
    }

    void write(int path, int value) {
        tell(tree -> tree.write(path, value) ? 1 : 0);
    }

    void write(int path, int value, boolean due) {
        due("write(" + path + ", " + value + ")", due ? 1 : 0, tree -> tree.write(path, value) ? 1 : 0);
    }

    void writeFails(int path, Class<? extends RuntimeException> due) {
        fails("write(" + path + ", 1)", due, tree -> tree.write(path, 1) ? 1 : 0);
    }

    private static Step making(int path) {
        return tree -> {
            tree.make(path);
            return 0;
        };
    }

    void make(int... paths) {
        for (int path : paths) {
            tell(making(path));
        }
    }

    void makeFails(int path, Class<? extends RuntimeException> due) {
        fails("make(" + path + ")", due, making(path));
    }

    void remove(int path) {
        tell(tree -> tree.remove(path));
    }

    void remove(int path, int due) {
        due("remove(" + path + ")", due, tree -> tree.remove(path));
    }

    void removeFails(int path, Class<? extends RuntimeException> due) {
        fails("remove(" + path + ")", due, tree -> tree.remove(path));
    }

    private static Step moving(int path, int to) {
        return tree -> {
            tree.move(path, to);
            return 0;
        };
    }

    void move(int path, int to) {
        tell(moving(path, to));
    }

    void moveFails(int path, int to, Class<? extends RuntimeException> due) {
        fails("move(" + path + ", " + to + ")", due, moving(path, to));
    }

    void layer() {
        tell(OverlayTree::layer);
    }

    void layer(int due) {
        due("layer()", due, OverlayTree::layer);
    }

    void layerFails() {
        fails("layer()", UnsupportedOperationException.class, OverlayTree::layer);
    }

    void squash(int k) {
        tell(tree -> tree.squash(k));
    }

    void squash(int k, int due) {
        due("squash(" + k + ")", due, tree -> tree.squash(k));
    }

    void squashFails(int k) {
        fails("squash(" + k + ")", IndexOutOfBoundsException.class, tree -> tree.squash(k));
    }

    void drop() {
        tell(OverlayTree::drop);
    }

    void drop(int due) {
        due("drop()", due, OverlayTree::drop);
    }

    void dropFails() {
        fails("drop()", UnsupportedOperationException.class, OverlayTree::drop);
    }

    void kind(int path, int n, int due) {
        due("kind(" + path + ", " + n + ")", due, tree -> tree.kind(path, n));
    }

    void kindFails(int path, int n) {
        fails("kind(" + path + ", " + n + ")", IllegalArgumentException.class, tree -> tree.kind(path, n));
    }

    void value(int path, int n, int due) {
        due("value(" + path + ", " + n + ")", due, tree -> tree.value(path, n));
    }

    void valueFails(int path, int n, Class<? extends RuntimeException> due) {
        fails("value(" + path + ", " + n + ")", due, tree -> tree.value(path, n));
    }

    void names(int path, int n, int due) {
        due("names(" + path + ", " + n + ")", due, tree -> tree.names(path, n));
    }

    void namesFails(int path, int n, Class<? extends RuntimeException> due) {
        fails("names(" + path + ", " + n + ")", due, tree -> tree.names(path, n));
    }

    void mark(int layer, int path, int due) {
        due("mark(" + layer + ", " + path + ")", due, tree -> tree.mark(layer, path));
    }

    void markFails(int layer, int path, Class<? extends RuntimeException> due) {
        fails("mark(" + layer + ", " + path + ")", due, tree -> tree.mark(layer, path));
    }

    void marks(int layer, int due) {
        due("marks(" + layer + ")", due, tree -> tree.marks(layer));
    }

    void marksFails(int layer) {
        fails("marks(" + layer + ")", IndexOutOfBoundsException.class, tree -> tree.marks(layer));
    }
}
