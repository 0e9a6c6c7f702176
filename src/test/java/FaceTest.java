import java.lang.reflect.Constructor;
import java.lang.reflect.Field;
import java.lang.reflect.Method;
import java.lang.reflect.Modifier;
import java.util.Arrays;
import java.util.TreeSet;

/** The class shows the document's face and nothing else (LANGUAGE.md, rule 1). */
final class FaceTest {
    private static final String[] FACE = {
        "public static final int PipeWorks.NONE",
        "public PipeWorks()",
        "public boolean PipeWorks.word(int,int)",
        "public boolean PipeWorks.data(int,int)",
        "public boolean PipeWorks.set(int,int)",
        "public void PipeWorks.reset()",
        "public int PipeWorks.clock(int) throws java.lang.IllegalArgumentException,java.lang.IllegalStateException",
        "public int PipeWorks.register(int) throws java.util.NoSuchElementException",
        "public int PipeWorks.memory(int) throws java.util.NoSuchElementException",
        "public int PipeWorks.state(int)",
    };

    public static void main(String[] args) {
        Due due = new Due("FaceTest");
        int modifiers = PipeWorks.class.getModifiers();
        due.is("the class is public", Modifier.isPublic(modifiers), true);
        due.is("the class is final", Modifier.isFinal(modifiers), true);
        due.is("NONE", PipeWorks.NONE, -1);
        TreeSet<String> seen = new TreeSet<>();
        TreeSet<String> hidden = new TreeSet<>();
        for (Field f : PipeWorks.class.getDeclaredFields()) {
            if (!Modifier.isPrivate(f.getModifiers())) {
                seen.add(f.toString());
            }
            boolean constant = Modifier.isFinal(f.getModifiers());
            due.is("static field is final: " + f, !Modifier.isStatic(f.getModifiers()) || constant, true);
        }
        for (Constructor<?> c : PipeWorks.class.getDeclaredConstructors()) {
            if (!Modifier.isPrivate(c.getModifiers())) {
                seen.add(c.toString());
            }
        }
        for (Method m : PipeWorks.class.getDeclaredMethods()) {
            if (Modifier.isPrivate(m.getModifiers())) {
                hidden.add(m.getName());
            } else {
                seen.add(m.toString());
            }
        }
        TreeSet<String> face = new TreeSet<>(Arrays.asList(FACE));
        if (!seen.equals(face)) {
            System.out.println("seen: " + seen);
            System.out.println("face: " + face);
        }
        due.is("the face is the document's", seen.equals(face), true);
        for (String name : new String[] {"word", "data", "set", "reset", "clock", "register", "memory", "state"}) {
            due.is("no private method is called " + name, hidden.contains(name), false);
        }
        for (Class<?> inside : PipeWorks.class.getDeclaredClasses()) {
            boolean fits = Modifier.isStatic(inside.getModifiers()) && !Modifier.isPublic(inside.getModifiers())
                    && !Modifier.isProtected(inside.getModifiers());
            due.is("inside class " + inside, fits, true);
        }
        due.end();
    }
}
