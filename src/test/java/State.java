import java.util.ArrayList;
import java.util.List;

/**
 * All that an object answers about its layers after a run of calls. One object promises answers for
 * too few calls to be asked everything, so the run is done again on a new one each time.
 */
final class State {
    static final int MOST_CALLS = 512;

    private static final int[] NAMES = {1, 2, 9};
    private static final List<Integer> PATHS = new ArrayList<>();

    static {
        addPathsBelow(0, 1);
    }

    private final List<Asker.Step> run;
    private final List<Long> answers = new ArrayList<>();
    private OverlayTree tree;
    private int calls = MOST_CALLS;

    private State(List<Asker.Step> run) {
        this.run = run;
    }

    private static void addPathsBelow(int path, int unit) {
        for (int name : NAMES) {
            PATHS.add(path + unit * name);
            if (unit < 1000) {
                addPathsBelow(path + unit * name, unit * 10);
            }
        }
    }

    /** The layers' marks and the views; paths with names other than 1, 2 and 9 are only counted. */
    static List<Long> after(List<Asker.Step> run) {
        State state = new State(run);
        int count = state.countLayers();
        for (int n = 1; n <= count; n++) {
            state.askMarks(n - 1);
            state.askView(n);
        }
        return state.answers;
    }

    /** The views alone, of the lowest 1, 2 .. layers one behind the other. */
    static List<List<Long>> viewsAfter(List<Asker.Step> run) {
        List<List<Long>> views = new ArrayList<>();
        int count = new State(run).countLayers();
        for (int n = 1; n <= count; n++) {
            State state = new State(run);
            state.askView(n);
            views.add(state.answers);
        }
        return views;
    }

    /** Whether every path with a mark has the root or a directory's mark of the same layer above it. */
    static boolean parentsHaveMarksAfter(List<Asker.Step> run) {
        State state = new State(run);
        int count = state.countLayers();
        for (int layer = 0; layer < count; layer++) {
            for (int path : PATHS) {
                if (!state.parentHasMark(layer, path)) {
                    return false;
                }
            }
        }
        return true;
    }

    private boolean parentHasMark(int layer, int path) {
        int parent = path >= 1000 ? path % 1000 : path >= 100 ? path % 100 : path >= 10 ? path % 10 : 0;
        if (parent == 0 || ask(tree -> tree.mark(layer, path)) == OverlayTree.NONE) {
            return true;
        }
        long above = ask(tree -> tree.mark(layer, parent));
        return above == 1 || above == 2;
    }

    private long ask(Asker.Step step) {
        if (calls >= MOST_CALLS) {
            tree = new OverlayTree();
            for (Asker.Step each : run) {
                quietly(each);
            }
            calls = run.size();
        }
        calls++;
        return quietly(step);
    }

    private long quietly(Asker.Step step) {
        try {
            return step.on(tree);
        } catch (RuntimeException e) {
            return Long.MIN_VALUE;
        }
    }

    private int countLayers() {
        int count = 0;
        while (count <= 8 && hasLayer(count)) {
            count++;
        }
        return count;
    }

    private boolean hasLayer(int layer) {
        return ask(tree -> tree.marks(layer)) != Long.MIN_VALUE;
    }

    private void askMarks(int layer) {
        answers.add(ask(tree -> tree.marks(layer)));
        for (int path : PATHS) {
            answers.add(ask(tree -> tree.mark(layer, path)));
        }
    }

    private void askView(int n) {
        answers.add(ask(tree -> tree.kind(0, n)));
        answers.add(ask(tree -> tree.names(0, n)));
        for (int path : PATHS) {
            long kind = ask(tree -> tree.kind(path, n));
            answers.add(kind);
            if (kind == 0) {
                answers.add(ask(tree -> tree.value(path, n)));
            } else if (kind == 1) {
                answers.add(ask(tree -> tree.names(path, n)));
            }
        }
    }
}
