import java.lang.reflect.Constructor;
import java.lang.reflect.Field;
import java.lang.reflect.Method;
import java.lang.reflect.Modifier;
import java.util.Set;
import java.util.TreeSet;

/** The public face, as the document has it, and no other member that can be seen. */
public final class FaceTest {
    private static final String[] METHODS = {
        "public int point(boolean)",
        "public int edge(int,int,int)",
        "public boolean fire(int,boolean)",
        "public int grow() throws java.lang.ArithmeticException",
        "public int cluster(int)",
        "public int size(int)",
        "public long grown(int)",
        "public int believe(int)",
        "public int sent(int,int) throws java.lang.IllegalStateException,java.lang.IllegalArgumentException",
        "public long guess()",
        "public long answer()",
        "public int chosen()",
        "public int syndrome(long)",
        "public int total(int)",
    };

    public static void main(String[] args) {
        Check.due("the class is", Modifier.toString(GrowDecoder.class.getModifiers()), "public final");
        Check.due("NONE", GrowDecoder.NONE, -1);
        Check.due("methods", methods(), new TreeSet<>(Set.of(METHODS)));
        Check.due("fields", fields(), "[public static final int GrowDecoder.NONE]");
        Constructor<?>[] made = GrowDecoder.class.getDeclaredConstructors();
        Check.due("constructors", made.length + " " + made[0], "1 public GrowDecoder()");
        Check.done();
    }

    private static Set<String> methods() {
        Set<String> seen = new TreeSet<>();
        for (Method m : GrowDecoder.class.getDeclaredMethods()) {
            if (!Modifier.isPrivate(m.getModifiers())) {
                seen.add(m.toString().replace("GrowDecoder.", ""));
            }
        }
        return seen;
    }

    private static Set<String> fields() {
        Set<String> seen = new TreeSet<>();
        for (Field f : GrowDecoder.class.getDeclaredFields()) {
            if (!Modifier.isPrivate(f.getModifiers())) {
                seen.add(f.toString());
            }
        }
        return seen;
    }
}
