import java.lang.reflect.Constructor;
import java.lang.reflect.Field;
import java.lang.reflect.Method;
import java.lang.reflect.Modifier;
import java.util.Arrays;
import java.util.Set;
import java.util.TreeSet;

/** The face of the class is the document's: all of it, and no more. */
public final class FaceTest {
    private static final String[] FACE = {
        "public void reset()",
        "public boolean poke(int,int,int)",
        "public int peek(int) throws IndexOutOfBoundsException",
        "public boolean store(int,int,int)",
        "public int stored(int,int) throws IndexOutOfBoundsException",
        "public boolean key(int)",
        "public int step(int) throws IllegalArgumentException",
        "public int run(int) throws IllegalArgumentException",
        "public boolean stopAt(int)",
        "public int register(int,int) throws IndexOutOfBoundsException",
        "public boolean put(int,int,int)",
        "public int entry(int,int)",
        "public int device(int)",
        "public int allowed(int,int,int)",
        "public long count(int)",
        "public int look(int)",
        "public int place(int,int)",
        "public int letter(int)",
    };

    public static void main(String[] args) {
        Due due = new Due();
        Set<String> missing = new TreeSet<>(Arrays.asList(FACE));
        Set<String> names = new TreeSet<>();
        for (Method m : PageBoard.class.getDeclaredMethods()) {
            if (Modifier.isPrivate(m.getModifiers())) {
                continue;
            }
            names.add(m.getName());
            String told = m.toGenericString().replace("PageBoard.", "").replace("java.lang.", "");
            due.isTrue("the face has " + told, missing.remove(told));
        }
        due.is("missing are " + missing, 0, missing.size());
        due.isTrue("the class is public and final",
            PageBoard.class.getModifiers() == (Modifier.PUBLIC | Modifier.FINAL));
        for (Constructor<?> c : PageBoard.class.getDeclaredConstructors()) {
            due.is("constructors take nothing", 0, c.getParameterCount());
            due.isTrue("constructors are public", Modifier.isPublic(c.getModifiers()));
        }
        for (Field f : PageBoard.class.getDeclaredFields()) {
            due.isTrue(f.getName() + " is private, or NONE",
                Modifier.isPrivate(f.getModifiers()) || f.getName().equals("NONE"));
        }
        due.is("NONE", -1, PageBoard.NONE);
        for (Class<?> inside : PageBoard.class.getDeclaredClasses()) {
            due.isTrue(inside.getName() + " is static", Modifier.isStatic(inside.getModifiers()));
            for (Method m : inside.getDeclaredMethods()) {
                due.isFalse(inside.getName() + " has a method " + m.getName() + " of the face",
                    names.contains(m.getName()));
            }
        }
        due.end();
    }
}
