import java.lang.reflect.Constructor;
import java.lang.reflect.Field;
import java.lang.reflect.Method;
import java.lang.reflect.Modifier;
import java.util.ArrayList;
import java.util.Collections;
import java.util.List;

/** The public face: exactly the constants, the constructor and the methods of the document. */
public final class FaceTest {
    private static final List<String> FACE = List.of(
        "public GuestClassMachine()",
        "public boolean GuestClassMachine.alike()",
        "public boolean GuestClassMachine.clear(int)",
        "public boolean GuestClassMachine.code(int)",
        "public boolean GuestClassMachine.field(int)",
        "public boolean GuestClassMachine.follow(int,int)",
        "public boolean GuestClassMachine.method(int)",
        "public int GuestClassMachine.held(int)",
        "public int GuestClassMachine.invoke(int,int,int)",
        "public int GuestClassMachine.link()",
        "public int GuestClassMachine.peek(int,int)",
        "public int GuestClassMachine.place()",
        "public int GuestClassMachine.reachable()",
        "public int GuestClassMachine.result()",
        "public int GuestClassMachine.type(int)",
        "public static final int GuestClassMachine.DONE",
        "public static final int GuestClassMachine.EMPTY",
        "public static final int GuestClassMachine.FLOW",
        "public static final int GuestClassMachine.FORM",
        "public static final int GuestClassMachine.OK",
        "public static final int GuestClassMachine.REFUSED",
        "public static final int GuestClassMachine.STOPPED",
        "public static final int GuestClassMachine.THROWN",
        "public void GuestClassMachine.reset()");

    public static void main(String[] args) {
        List<String> seen = new ArrayList<>();
        for (Constructor<?> c : GuestClassMachine.class.getDeclaredConstructors()) {
            note(seen, c.getModifiers(), c.toString());
        }
        for (Method m : GuestClassMachine.class.getDeclaredMethods()) {
            note(seen, m.getModifiers(), m.toString());
        }
        for (Field f : GuestClassMachine.class.getDeclaredFields()) {
            note(seen, f.getModifiers(), f.toString());
        }
        Collections.sort(seen);
        Checks.due("the face is as due: " + seen, seen.equals(FACE), true);
        int modifiers = GuestClassMachine.class.getModifiers();
        Checks.due("public and final", modifiers, Modifier.PUBLIC | Modifier.FINAL);
        Checks.due("OK", GuestClassMachine.OK, 0);
        Checks.due("FORM", GuestClassMachine.FORM, 1);
        Checks.due("FLOW", GuestClassMachine.FLOW, 2);
        Checks.due("EMPTY", GuestClassMachine.EMPTY, 3);
        Checks.due("DONE", GuestClassMachine.DONE, 0);
        Checks.due("THROWN", GuestClassMachine.THROWN, 1);
        Checks.due("STOPPED", GuestClassMachine.STOPPED, 2);
        Checks.due("REFUSED", GuestClassMachine.REFUSED, 3);
        Checks.finish();
    }

    private static void note(List<String> seen, int modifiers, String text) {
        if (!Modifier.isPrivate(modifiers)) {
            seen.add(text);
        }
    }
}
