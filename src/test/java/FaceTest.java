import java.lang.reflect.Constructor;
import java.lang.reflect.Field;
import java.lang.reflect.Method;
import java.lang.reflect.Modifier;
import java.util.Set;
import java.util.TreeSet;

/** The class shows the document's face and nothing else. */
public final class FaceTest {
    private static final String BOUNDS = " throws java.lang.IndexOutOfBoundsException";
    private static final String[] FACE = {
        "public void FormComposer.take(int) throws java.lang.IllegalArgumentException",
        "public void FormComposer.put(int,int,int,int)" + BOUNDS + ",java.lang.IllegalArgumentException",
        "public void FormComposer.compose(int,int,int)" + BOUNDS,
        "public void FormComposer.invert(int,int)" + BOUNDS,
        "public void FormComposer.power(int,int,long)" + BOUNDS,
        "public int FormComposer.form(int,int)" + BOUNDS,
        "public boolean FormComposer.same(int,int)" + BOUNDS,
        "public int FormComposer.order(int)" + BOUNDS,
        "public int FormComposer.exponent(int,int)" + BOUNDS,
        "public int FormComposer.count(int)",
        "public int FormComposer.prime(int)" + BOUNDS,
        "public int FormComposer.character(int,int)" + BOUNDS,
        "public FormComposer()",
    };

    private static void addNamesakes(Class<?> kind, Set<String> faceNames, Set<String> got) {
        for (Method m : kind.getDeclaredMethods()) {
            if (Modifier.isPrivate(m.getModifiers()) && faceNames.contains(m.getName())) {
                got.add(m + " bears a public method's name");
            }
        }
    }

    public static void main(String[] args) {
        Set<String> want = new TreeSet<>(Set.of(FACE));
        Set<String> got = new TreeSet<>();
        Set<String> faceNames = new TreeSet<>();
        Class<?> kind = FormComposer.class;
        for (Method m : kind.getDeclaredMethods()) {
            if (!Modifier.isPrivate(m.getModifiers())) {
                got.add(m.toString());
                faceNames.add(m.getName());
            }
        }
        for (Constructor<?> c : kind.getDeclaredConstructors()) {
            if (!Modifier.isPrivate(c.getModifiers())) {
                got.add(c.toString());
            }
        }
        for (Field f : kind.getDeclaredFields()) {
            if (!Modifier.isPrivate(f.getModifiers())) {
                got.add(f.toString());
            }
        }
        addNamesakes(kind, faceNames, got);
        for (Class<?> inner : kind.getDeclaredClasses()) {
            addNamesakes(inner, faceNames, got);
            if (!Modifier.isStatic(inner.getModifiers()) || Modifier.isPublic(inner.getModifiers())) {
                got.add(inner + " is not static or is public");
            }
        }
        if (kind.getModifiers() != (Modifier.PUBLIC | Modifier.FINAL)) {
            got.add("the class is not just public and final");
        }
        if (!got.equals(want)) {
            System.out.println("the face is " + got + ", due is " + want);
            System.exit(1);
        }
        System.out.println("the face is as due");
    }
}
