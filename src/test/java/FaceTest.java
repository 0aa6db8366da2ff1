import java.lang.reflect.Constructor;
import java.lang.reflect.Field;
import java.lang.reflect.Method;
import java.lang.reflect.Modifier;
import java.util.ArrayList;
import java.util.List;
import java.util.TreeSet;

/** The face of StyleDesk is the document's, and nothing beside it can be seen from outside. */
public final class FaceTest {
    public static void main(String[] args) {
        TreeSet<String> seen = new TreeSet<>();
        seen.add(Modifier.toString(StyleDesk.class.getModifiers()) + " class");
        for (Constructor<?> c : StyleDesk.class.getDeclaredConstructors()) {
            seen.add(c.toString());
        }
        TreeSet<String> open = new TreeSet<>();
        List<String> closed = new ArrayList<>();
        for (Method m : StyleDesk.class.getDeclaredMethods()) {
            if (m.isSynthetic()) {
                continue;
            }
            if (Modifier.isPrivate(m.getModifiers())) {
                closed.add(m.getName());
            } else {
                open.add(m.getName());
                seen.add(m.toString());
            }
        }
        for (Field f : StyleDesk.class.getDeclaredFields()) {
            if (!f.isSynthetic() && !Modifier.isPrivate(f.getModifiers())) {
                seen.add(f.toString());
            }
        }
        boolean right = seen.equals(due());
        if (!right) {
            System.out.println("the face is " + seen + ", due is " + due());
        }
        for (String name : closed) {
            if (open.contains(name)) {
                System.out.println("a private method is named " + name);
                right = false;
            }
        }
        if (StyleDesk.NONE != -1) {
            System.out.println("NONE is " + StyleDesk.NONE);
            right = false;
        }
        if (!right) {
            System.exit(1);
        }
        System.out.println("the face is as due");
    }

    private static TreeSet<String> due() {
        String argument = "java.lang.IllegalArgumentException";
        String state = "java.lang.IllegalStateException";
        String element = "java.util.NoSuchElementException";
        return new TreeSet<>(List.of(
                "public final class",
                "public StyleDesk()",
                "public static final int StyleDesk.NONE",
                "public int StyleDesk.element(int,int,int,int) throws " + argument + "," + state,
                "public boolean StyleDesk.put(int,int)",
                "public int StyleDesk.rule(int) throws " + state + "," + argument,
                "public void StyleDesk.drop(int) throws " + element,
                "public boolean StyleDesk.matches(int) throws " + element + "," + argument,
                "public int StyleDesk.weight(int,int) throws " + element,
                "public int StyleDesk.winner(int,int) throws " + element + "," + argument,
                "public float StyleDesk.value(int,int) throws " + element + "," + argument,
                "public int StyleDesk.how(int,int) throws " + element + "," + argument,
                "public int StyleDesk.count(int)"));
    }
}
