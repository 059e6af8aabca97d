import java.lang.reflect.Constructor;
import java.lang.reflect.Field;
import java.lang.reflect.Method;
import java.lang.reflect.Modifier;
import java.util.Set;
import java.util.TreeSet;

/** The class has the document's face, and no other member that can be seen from outside. */
public final class FaceTest {
    private static final Set<String> DUE = Set.of(
            "public OverlayTree()",
            "public static final int OverlayTree.NONE",
            "public boolean OverlayTree.write(int,int) throws IllegalArgumentException,IllegalStateException",
            "public void OverlayTree.make(int) throws IllegalArgumentException,IllegalStateException",
            "public int OverlayTree.remove(int) throws IllegalArgumentException,NoSuchElementException",
            "public void OverlayTree.move(int,int) throws IllegalArgumentException,NoSuchElementException,"
                    + "IllegalStateException",
            "public int OverlayTree.layer() throws UnsupportedOperationException",
            "public int OverlayTree.squash(int) throws IndexOutOfBoundsException",
            "public int OverlayTree.drop() throws UnsupportedOperationException",
            "public int OverlayTree.kind(int,int) throws IllegalArgumentException",
            "public int OverlayTree.value(int,int) throws IllegalArgumentException,NoSuchElementException",
            "public int OverlayTree.names(int,int) throws IllegalArgumentException,NoSuchElementException",
            "public int OverlayTree.mark(int,int) throws IndexOutOfBoundsException,IllegalArgumentException",
            "public int OverlayTree.marks(int) throws IndexOutOfBoundsException");

    private FaceTest() {
    }

    public static void main(String[] args) {
        Set<String> got = new TreeSet<>();
        Set<String> publicNames = new TreeSet<>();
        Set<String> privateNames = new TreeSet<>();
        for (Constructor<?> each : OverlayTree.class.getDeclaredConstructors()) {
            addVisible(got, each.getModifiers(), each.toGenericString());
        }
        for (Field each : OverlayTree.class.getDeclaredFields()) {
            addVisible(got, each.getModifiers(), each.toGenericString());
        }
        for (Method each : OverlayTree.class.getDeclaredMethods()) {
            addVisible(got, each.getModifiers(), each.toGenericString());
            (Modifier.isPublic(each.getModifiers()) ? publicNames : privateNames).add(each.getName());
        }
        Check.same("the face " + got, got.equals(DUE) ? 1 : 0, 1);
        privateNames.retainAll(publicNames);
        Check.same("private methods named as public ones " + privateNames, privateNames.size(), 0);
        Check.same("the class is public and final", OverlayTree.class.getModifiers(), Modifier.PUBLIC | Modifier.FINAL);
        Check.end();
    }

    private static void addVisible(Set<String> face, int modifiers, String text) {
        if (!Modifier.isPrivate(modifiers)) {
            face.add(text.replace("java.lang.", "").replace("java.util.", ""));
        }
    }
}
