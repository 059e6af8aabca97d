import java.util.ArrayList;
import java.util.List;
import java.util.Random;

/**
 * Long runs of calls, drawn from fixed seeds, on an OverlayTree and on the Reference: every answer and
 * every exception must be the same, and so must the whole state behind them. Beside that, what the
 * document says of all states: marks have their parents' marks, and squashing changes no view.
 * Looking at the whole state takes far more calls than the 512 the document promises answers for:
 * the class has no such limit, so the test asks more of it than the document does.
 */
public final class ReferenceTest {
    private static final int RUNS = 400;
    private static final int ROUNDS = 512;

    private final Random random;
    private final int lastName;
    private final String run;
    private final OverlayTree tree = new OverlayTree();
    private final Reference reference = new Reference();
    private final List<Integer> paths = new ArrayList<>();

    private ReferenceTest(int seed) {
        random = new Random(seed);
        lastName = seed % 10 == 0 ? 9 : 1 + seed % 3;
        run = "run " + seed + ": ";
        addPaths(0, 1);
    }

    public static void main(String[] args) {
        for (int seed = 1; seed <= RUNS; seed++) {
            new ReferenceTest(seed).run();
        }
        Check.end();
    }

    private void addPaths(int path, int unit) {
        paths.add(path);
        for (int name = 1; name <= lastName && unit <= 1000; name++) {
            addPaths(path + unit * name, unit * 10);
        }
    }

    private void run() {
        for (int call = 0; call < ROUNDS; call++) {
            oneCall();
            if (call % 64 == 63 && lastName < 9) {
                sameState();
            }
        }
    }

    private int path() {
        if (random.nextInt(40) == 0) {
            return random.nextInt(12000) - 1000;
        }
        int length = 1 + Math.min(random.nextInt(4), random.nextInt(4));
        int path = 0;
        for (int i = 0; i < length; i++) {
            path = path * 10 + 1 + random.nextInt(lastName);
        }
        return random.nextInt(60) == 0 ? 0 : path;
    }

    private int view() {
        return random.nextInt(20) == 0 ? random.nextInt(12) - 2 : 1 + random.nextInt(reference.count());
    }

    private void oneCall() {
        int path = path();
        int other = random.nextInt(15) == 0 ? path : path();
        int n = view();
        int value = random.nextInt();
        switch (random.nextInt(24)) {
            case 0, 1, 2, 3 -> same("write(" + path + ", " + value + ")",
                    () -> tree.write(path, value) ? 1 : 0, () -> reference.write(path, value) ? 1 : 0);
            case 4, 5, 6, 7, 8, 9 -> same("make(" + path + ")", () -> {
                tree.make(path);
                return 0;
            }, () -> {
                reference.make(path);
                return 0;
            });
            case 10, 11 -> same("remove(" + path + ")", () -> tree.remove(path), () -> reference.remove(path));
            case 12, 13 -> same("move(" + path + ", " + other + ")", () -> {
                tree.move(path, other);
                return 0;
            }, () -> {
                reference.move(path, other);
                return 0;
            });
            case 14, 15 -> same("layer()", tree::layer, reference::layer);
            case 16 -> squash(n - 1);
            case 17 -> {
                if (random.nextInt(3) == 0) {
                    same("drop()", tree::drop, reference::drop);
                }
            }
            case 18 -> same("kind(" + path + ", " + n + ")", () -> tree.kind(path, n), () -> reference.kind(path, n));
            case 19 -> same("value(" + path + ", " + n + ")", () -> tree.value(path, n), () -> reference.value(path, n));
            case 20, 21 -> same("names(" + path + ", " + n + ")", () -> tree.names(path, n), () -> reference.names(path, n));
            case 22 -> same("mark(" + (n - 1) + ", " + path + ")",
                    () -> tree.mark(n - 1, path), () -> reference.mark(n - 1, path));
            default -> same("marks(" + (n - 1) + ")", () -> tree.marks(n - 1), () -> reference.marks(n - 1));
        }
    }

    private void same(String what, Check.Call got, Check.Call due) {
        long answer;
        try {
            answer = due.answer();
        } catch (RuntimeException e) {
            Check.fails(run + what, e.getClass(), got);
            return;
        }
        try {
            Check.same(run + what, got.answer(), answer);
        } catch (RuntimeException e) {
            Check.same(run + what + " threw " + e + " and", 1, 0);
        }
    }

    private void squash(int k) {
        boolean isValid = k >= 0 && k + 1 < reference.count();
        List<Integer> before = new ArrayList<>();
        for (int n = 1; isValid && n <= reference.count(); n++) {
            if (n != k + 1) {
                before.addAll(viewOf(n));
            }
        }
        same("squash(" + k + ")", () -> tree.squash(k), () -> reference.squash(k));
        List<Integer> after = new ArrayList<>();
        for (int n = 1; isValid && n <= reference.count(); n++) {
            after.addAll(viewOf(n));
        }
        Check.same(run + "the views are as before squash(" + k + ")", before.equals(after) ? 1 : 0, 1);
    }

    private List<Integer> viewOf(int n) {
        List<Integer> view = new ArrayList<>();
        for (int path : paths) {
            int kind = tree.kind(path, n);
            view.add(kind);
            view.add(kind == Reference.FILE ? tree.value(path, n) : 0);
        }
        return view;
    }

    private void sameState() {
        for (int layer = 0; layer < reference.count(); layer++) {
            int n = layer + 1;
            int at = layer;
            same("marks(" + layer + ")", () -> tree.marks(at), () -> reference.marks(at));
            for (int path : paths) {
                same("kind(" + path + ", " + n + ")", () -> tree.kind(path, n), () -> reference.kind(path, n));
                same("value(" + path + ", " + n + ")", () -> tree.value(path, n), () -> reference.value(path, n));
                same("mark(" + at + ", " + path + ")", () -> tree.mark(at, path), () -> reference.mark(at, path));
                parentHasMark(at, path);
            }
        }
    }

    private void parentHasMark(int layer, int path) {
        int parent = path >= 1000 ? path % 1000 : path >= 100 ? path % 100 : path % 10;
        if (path > 9 && tree.mark(layer, path) != OverlayTree.NONE) {
            int mark = tree.mark(layer, parent);
            boolean isDirectory = mark == Reference.DIRECTORY || mark == Reference.OPAQUE;
            Check.same(run + "the parent of " + path + " has a directory's mark", isDirectory ? 1 : 0, 1);
        }
    }
}
