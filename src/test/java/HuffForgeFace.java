import java.lang.reflect.Constructor;
import java.lang.reflect.Field;
import java.lang.reflect.Method;
import java.lang.reflect.Modifier;
import java.util.Set;
import java.util.TreeSet;

/** The class has the document's face, and nothing more that can be seen from outside. */
public final class HuffForgeFace {
    private static final String THROWS = " throws java.lang.IllegalArgumentException,java.lang.IllegalStateException";

    private static final Set<String> FACE = Set.of(
            "public static final int HuffForge.NONE",
            "public HuffForge()",
            "public boolean HuffForge.count(int,int)",
            "public int HuffForge.symbol(int)",
            "public void HuffForge.wipe()",
            "public int HuffForge.make()",
            "public int HuffForge.comes(int,int)" + THROWS,
            "public void HuffForge.forget()",
            "public long HuffForge.best()",
            "public int HuffForge.length(int)",
            "public int HuffForge.code(int)",
            "public int HuffForge.of(int,int)",
            "public int HuffForge.put(int)" + THROWS,
            "public int HuffForge.raw(int,int)" + THROWS,
            "public int HuffForge.get()",
            "public int HuffForge.bits(int)",
            "public boolean HuffForge.seek(int)",
            "public boolean HuffForge.cut(int)",
            "public int HuffForge.look(int)");

    private static Set<String> seenFromOutside() {
        Set<String> seen = new TreeSet<>();
        for (Field f : HuffForge.class.getDeclaredFields()) {
            if (!Modifier.isPrivate(f.getModifiers())) {
                seen.add(f.toString());
            }
        }
        for (Constructor<?> c : HuffForge.class.getDeclaredConstructors()) {
            if (!Modifier.isPrivate(c.getModifiers())) {
                seen.add(c.toString());
            }
        }
        for (Method m : HuffForge.class.getDeclaredMethods()) {
            if (!Modifier.isPrivate(m.getModifiers())) {
                seen.add(m.toString());
            }
        }
        return seen;
    }

    public static void main(String[] args) {
        Set<String> seen = seenFromOutside();
        boolean right = seen.equals(FACE) && Modifier.isFinal(HuffForge.class.getModifiers());
        System.out.println(right ? "the face is as due" : "the face is " + seen + ", due is " + new TreeSet<>(FACE));
        if (!right) {
            System.exit(1);
        }
    }
}
