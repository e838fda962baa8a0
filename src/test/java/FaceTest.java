import java.lang.reflect.Constructor;
import java.lang.reflect.Field;
import java.lang.reflect.Member;
import java.lang.reflect.Method;
import java.lang.reflect.Modifier;
import java.util.ArrayList;
import java.util.Collections;
import java.util.List;

/** The class shows the document's face, and nothing else. */
public final class FaceTest {
    private static final String[] FACE = {
        "public TorusGates()",
        "public boolean TorusGates.within(int) throws java.util.NoSuchElementException",
        "public int TorusGates.bit(boolean) throws java.lang.IllegalStateException",
        "public int TorusGates.blur(int,int) throws java.util.NoSuchElementException,java.lang.IllegalArgumentException,java.lang.IllegalStateException",
        "public int TorusGates.bound(int) throws java.util.NoSuchElementException",
        "public int TorusGates.choose(int,int,int) throws java.util.NoSuchElementException,java.lang.IllegalStateException",
        "public int TorusGates.clear()",
        "public int TorusGates.count(int) throws java.lang.IllegalArgumentException",
        "public int TorusGates.drop(int) throws java.util.NoSuchElementException",
        "public int TorusGates.gate(int,int,int) throws java.util.NoSuchElementException,java.lang.IllegalStateException",
        "public int TorusGates.key(int)",
        "public int TorusGates.line(int,int,int) throws java.util.NoSuchElementException,java.lang.IllegalStateException",
        "public int TorusGates.not(int) throws java.util.NoSuchElementException,java.lang.IllegalStateException",
        "public int TorusGates.open(int) throws java.util.NoSuchElementException,java.lang.IllegalStateException",
        "public int TorusGates.pile(int,int) throws java.util.NoSuchElementException,java.lang.IllegalArgumentException,java.lang.IllegalStateException",
        "public int TorusGates.play(int,int) throws java.util.NoSuchElementException,java.lang.IllegalArgumentException,java.lang.IllegalStateException",
        "public static final int TorusGates.NONE",
    };

    public static void main(String[] args) {
        List<String> shown = new ArrayList<>();
        List<String> privateNames = new ArrayList<>();
        List<String> publicNames = new ArrayList<>();
        for (Constructor<?> c : TorusGates.class.getDeclaredConstructors()) {
            sort(c, c.toString(), shown);
        }
        for (Field f : TorusGates.class.getDeclaredFields()) {
            sort(f, f.toString(), shown);
        }
        for (Method m : TorusGates.class.getDeclaredMethods()) {
            sort(m, m.toString(), shown);
            (Modifier.isPrivate(m.getModifiers()) ? privateNames : publicNames).add(m.getName());
        }
        Collections.sort(shown);
        Check.same("the face", List.of(FACE), shown);
        privateNames.retainAll(publicNames);
        Check.same("private methods with a public one's name", List.of(), privateNames);
        Check.same("final", true, Modifier.isFinal(TorusGates.class.getModifiers()));
        Check.finish();
    }

    private static void sort(Member member, String text, List<String> shown) {
        if (!Modifier.isPrivate(member.getModifiers())) {
            shown.add(text);
        }
    }
}
