/**
 * Promises 11 to 16, clause by clause: the last case that is still taken, the first that is not, and
 * where a call is refused or only looks, that it changes nothing.
 */
public final class GlobalsTest implements Codes {
    public static void main(String[] args) {
        held();
        peekOfInts();
        peekOfRefs();
        peekOfNothing();
        follow();
        followToNullAndToItself();
        followRefused();
        alike();
        clear();
        clearRefused();
        reachable();
        reachableIsAsAtANew();
        looksChangeNothing();
        withoutLink();
        Checks.finish();
    }

    /**
     * Type 0 has the fields 0, 8 and 15; 1 is below it and has 7 too; 2 stands alone.
     * Method 0 puts its receiver in global 0, method 1 in global 1, both with the argument in field 0;
     * method 2 joins them: field 8 of what global 0 holds becomes what global 1 holds;
     * method 3 has global 1 hold what global 0 holds; method 4 puts a type 2 object in field 15 of global 0.
     */
    private static void build(GuestClassMachine x) {
        x.type(-1);
        x.field(0);
        x.field(8);
        x.field(15);
        Guest.method(x, 0, LOAD, 0, LOAD, 1, PUT, 0, LOAD, 0, GSTORE, 0, LOAD, 1, RETURN);
        Guest.method(x, 1, LOAD, 0, LOAD, 1, PUT, 0, LOAD, 0, GSTORE, 1, LOAD, 1, RETURN);
        Guest.method(x, 2, GLOAD, 0, GLOAD, 1, PUT, 8, LOAD, 1, RETURN);
        Guest.method(x, 3, GLOAD, 0, GSTORE, 1, LOAD, 1, RETURN);
        Guest.method(x, 4, GLOAD, 0, NEW, 2, PUT, 15, PUSH, 4, RETURN);
        x.type(0);
        x.field(7);
        x.type(-1);
        Guest.link(x);
    }

    /** Global 0 has an object of type 1, its field 8 that of type 0 in global 1, its field 15 one of type 2. */
    private static void joined(GuestClassMachine x) {
        build(x);
        Guest.run("global 0", x, Guest.call(1, 0, 50), DONE, 50);
        Guest.run("global 1", x, Guest.call(0, 1, 51), DONE, 51);
        Guest.run("joined", x, Guest.call(0, 2, 52), DONE, 52);
        Guest.run("field 15", x, Guest.call(0, 4, 0), DONE, 4);
    }

    private static GuestClassMachine built() {
        GuestClassMachine x = new GuestClassMachine();
        build(x);
        return x;
    }

    private static GuestClassMachine joined() {
        GuestClassMachine x = new GuestClassMachine();
        joined(x);
        return x;
    }

    private static void held() {
        Checks.sentence("-1 if g is outside 0..1 or the global is null; else the number of its object's type.");
        GuestClassMachine x = built();
        Checks.due("null", x.held(0), -1);
        Checks.due("null", x.held(1), -1);
        x.invoke(1, 0, 5);
        Checks.due("held(0)", x.held(0), 1);
        Checks.due("held(1)", x.held(1), -1);
        x.invoke(0, 1, 5);
        Checks.due("held(0)", x.held(0), 1);
        Checks.due("held(1)", x.held(1), 0);
        for (int g : NO_GLOBALS) {
            Checks.due("held(" + g + ")", x.held(g), -1);
        }
        // Every type's number.
        GuestClassMachine y = Guest.single(2, LOAD, 0, GSTORE, 1, PUSH, 0, RETURN);
        for (int type = 1; type < 5; type++) {
            y.type(type - 1);
        }
        Guest.link(y);
        for (int type = 0; type < 5; type++) {
            y.invoke(type, 2, 0);
            Checks.due("held(1)", y.held(1), type);
            Checks.due("held(0)", y.held(0), -1);
        }
    }

    private static void peekOfInts() {
        Checks.sentence("Field name of the object in global g: an INT");
        GuestClassMachine x = built();
        int[] values = {LEAST, LEAST + 1, -2, -1, 0, 1, 2, GREATEST};
        for (int value : values) {
            x.invoke(0, 0, value);
            x.invoke(1, 1, ~value);
            Checks.due("peek(0, 0)", x.peek(0, 0), value);
            Checks.due("peek(1, 0)", x.peek(1, 0), ~value);
            Checks.due("peek(1, 7)", x.peek(1, 7), 0);
        }
    }

    private static void peekOfRefs() {
        Checks.sentence("or for a REF -1 if null, else the number of that object's type");
        GuestClassMachine x = joined();
        Checks.due("peek(0, 8)", x.peek(0, 8), 0);
        Checks.due("peek(0, 15)", x.peek(0, 15), 2);
        Checks.due("peek(1, 8)", x.peek(1, 8), -1);
        Checks.due("peek(1, 15)", x.peek(1, 15), -1);
    }

    private static void peekOfNothing() {
        Checks.sentence("-2147483648 if g is outside 0..1, the global is null, or its object has no such field.");
        GuestClassMachine empty = built();
        GuestClassMachine x = joined();
        for (int name = -20; name < 40; name++) {
            boolean above = name == 0 || name == 8 || name == 15;
            boolean below = above || name == 7;
            Checks.due("null, " + name, empty.peek(0, name), NO_VALUE);
            Checks.due("null, " + name, empty.peek(1, name), NO_VALUE);
            Checks.due("type 1, " + name, x.peek(0, name) != NO_VALUE, below);
            Checks.due("type 0, " + name, x.peek(1, name) != NO_VALUE, above);
        }
        for (int name : NO_NAMES) {
            Checks.due("peek(0, " + name + ")", x.peek(0, name), NO_VALUE);
        }
        for (int g : NO_GLOBALS) {
            Checks.due("peek(" + g + ", 0)", x.peek(g, 0), NO_VALUE);
            Checks.due("peek(" + g + ", 8)", x.peek(g, 8), NO_VALUE);
            Checks.due("peek(" + g + ", -1)", x.peek(g, -1), NO_VALUE);
        }
    }

    private static void follow() {
        Checks.sentence("Replaces global g by what the REF field name of its object holds.");
        GuestClassMachine x = joined();
        Checks.due("follow(0, 8)", x.follow(0, 8), true);
        Checks.due("alike", x.alike(), true);
        Checks.due("held(0)", x.held(0), 0);
        Checks.due("peek(0, 0)", x.peek(0, 0), 51);
        Checks.due("reachable", x.reachable(), 1);
        GuestClassMachine y = joined();
        Checks.due("follow(0, 15)", y.follow(0, 15), true);
        Checks.due("held(0)", y.held(0), 2);
        Checks.due("held(1)", y.held(1), 0);
        Checks.due("reachable", y.reachable(), 2);
        GuestClassMachine z = joined();
        z.invoke(0, 3, 0);
        Checks.due("follow(1, 15)", z.follow(1, 15), true);
        Checks.due("held(1)", z.held(1), 2);
        Checks.due("held(0)", z.held(0), 1);
        Checks.due("reachable", z.reachable(), 3);
        // Every name of a REF field.
        for (int name = 8; name < 16; name++) {
            GuestClassMachine w = new GuestClassMachine();
            w.type(-1);
            w.field(name);
            w.type(-1);
            Guest.method(w, 2, NEW, 0, GSTORE, 0, GLOAD, 0, LOAD, 0, PUT, name, PUSH, 0, RETURN);
            Guest.link(w);
            w.invoke(1, 2, 0);
            Checks.due("held(0)", w.held(0), 0);
            for (int other = 0; other < 16; other++) {
                if (other != name) {
                    Checks.due("follow(0, " + other + ")", w.follow(0, other), false);
                }
            }
            Checks.due("follow(0, " + name + ")", w.follow(0, name), true);
            Checks.due("held(0)", w.held(0), 1);
        }
    }

    private static void followToNullAndToItself() {
        Checks.sentence("Replaces global g by what the REF field name of its object holds.");
        GuestClassMachine x = joined();
        Checks.due("to null", x.follow(1, 8), true);
        Checks.due("held(1)", x.held(1), -1);
        Checks.due("again", x.follow(1, 8), false);
        Checks.due("the object is still held by the other's field", x.reachable(), 3);
        GuestClassMachine y = built();
        y.invoke(0, 0, 60);
        y.invoke(0, 3, 0);
        y.invoke(0, 2, 0);
        for (int i = 0; i < 3; i++) {
            Checks.due("to itself", y.follow(0, 8), true);
            Checks.due("alike", y.alike(), true);
            Checks.due("peek(0, 0)", y.peek(0, 0), 60);
            Checks.due("reachable", y.reachable(), 1);
        }
    }

    private static void followRefused() {
        Checks.sentence("False, changing nothing, if g is outside 0..1, the global is null, "
            + "name is below 8 or above 15, or its object has no such field.");
        for (int g : NO_GLOBALS) {
            Twins.unchanged("follow(" + g + ", 8)", GlobalsTest::joined,
                x -> Checks.due("follow(" + g + ", 8)", x.follow(g, 8), false));
        }
        for (int g = 0; g < 2; g++) {
            int global = g;
            int[] noRefs = {LEAST, -8, -1, 0, 6, 7, 9, 14, 16, 23, 24, 31, GREATEST};
            for (int name : noRefs) {
                Twins.unchanged("follow(" + g + ", " + name + ")", GlobalsTest::joined,
                    x -> Checks.due("follow(" + global + ", " + name + ")", x.follow(global, name), false));
            }
            for (int name = 7; name < 17; name++) {
                int one = name;
                Twins.unchanged("follow of null", GlobalsTest::build,
                    x -> Checks.due("follow of null", x.follow(global, one), false));
            }
        }
    }

    private static void alike() {
        Checks.sentence("Whether both globals hold the very same object.");
        GuestClassMachine x = built();
        Checks.due("both null", x.alike(), false);
        x.invoke(0, 0, 5);
        Checks.due("the second null", x.alike(), false);
        x.invoke(0, 1, 5);
        Checks.due("with the same values", x.alike(), false);
        x.invoke(0, 3, 5);
        Checks.due("the same", x.alike(), true);
        x.clear(0);
        Checks.due("the first null", x.alike(), false);
        x.clear(1);
        Checks.due("both null again", x.alike(), false);
        GuestClassMachine y = built();
        y.invoke(0, 1, 5);
        Checks.due("the first null", y.alike(), false);
    }

    private static void clear() {
        Checks.sentence("Makes global g null");
        for (int g = 0; g < 2; g++) {
            GuestClassMachine x = joined();
            Checks.due("clear(" + g + ")", x.clear(g), true);
            Checks.due("held(" + g + ")", x.held(g), -1);
            Checks.due("held(" + (1 - g) + ")", x.held(1 - g), g == 0 ? 0 : 1);
            Checks.due("reachable", x.reachable(), g == 0 ? 1 : 3);
            Checks.due("clear again", x.clear(g), true);
            Checks.due("clear the other", x.clear(1 - g), true);
            Checks.due("reachable", x.reachable(), 0);
        }
        GuestClassMachine y = new GuestClassMachine();
        Checks.due("clear(0) of a new object", y.clear(0), true);
        Checks.due("clear(1) of a new object", y.clear(1), true);
    }

    private static void clearRefused() {
        Checks.sentence("false if g is outside 0..1");
        for (int g : NO_GLOBALS) {
            Twins.unchanged("clear(" + g + ")", GlobalsTest::joined,
                x -> Checks.due("clear(" + g + ")", x.clear(g), false));
        }
    }

    private static void reachable() {
        Checks.sentence("The number of objects that are reachable from the globals.");
        GuestClassMachine x = built();
        Checks.due("none", x.reachable(), 0);
        x.invoke(2, 0, 1);
        Checks.due("refused", x.reachable(), 0);
        x.invoke(0, 2, 1);
        Checks.due("thrown, nothing held", x.reachable(), 0);
        x.invoke(0, 0, 1);
        Checks.due("one", x.reachable(), 1);
        x.invoke(0, 3, 1);
        Checks.due("the same from both", x.reachable(), 1);
        x.invoke(0, 1, 1);
        Checks.due("two", x.reachable(), 2);
        x.invoke(0, 2, 1);
        Checks.due("two, one from the other", x.reachable(), 2);
        x.clear(1);
        Checks.due("over the field alone", x.reachable(), 2);
        x.invoke(0, 4, 1);
        Checks.due("over two fields", x.reachable(), 3);
        x.invoke(0, 4, 1);
        Checks.due("a field written over", x.reachable(), 3);
        x.clear(0);
        Checks.due("none left", x.reachable(), 0);
    }

    /** From none to ten; each time the count tells whether the next one fits. */
    private static void reachableIsAsAtANew() {
        Checks.sentence("The number of objects that are reachable from the globals.");
        GuestClassMachine x = built();
        for (int i = 0; i < 10; i++) {
            Checks.due("reachable", x.reachable(), i);
            Guest.run("one more", x, Guest.call(0, 0, i), DONE, i);
            Guest.run("joined in front", x, Guest.call(0, 2, i), i < 9 ? DONE : THROWN, i < 9 ? i : 6);
            if (i < 9) {
                Guest.run("held by both", x, Guest.call(0, 3, i), DONE, i);
            }
        }
        // The tenth couldn't be joined, as its method needed a receiver.
        Checks.due("ten", x.reachable(), 10);
        Guest.run("the eleventh", x, Guest.call(0, 0, 0), THROWN, 6);
        Checks.due("clear(0)", x.clear(0), true);
        Checks.due("nine", x.reachable(), 9);
        Guest.run("room for one", x, Guest.call(0, 0, 0), DONE, 0);
        Checks.due("ten", x.reachable(), 10);
    }

    private static void looksChangeNothing() {
        Checks.sentence("held, peek, alike, reachable, result and place tell the state and change nothing");
        Twins.unchanged("looks", GlobalsTest::joined, GlobalsTest::lookAtAll);
        Twins.unchanged("looks", GlobalsTest::build, GlobalsTest::lookAtAll);
        Twins.unchanged("looks", x -> { }, GlobalsTest::lookAtAll);
    }

    private static void lookAtAll(GuestClassMachine x) {
        for (int g = -1; g < 3; g++) {
            x.held(g);
            for (int name = -1; name < 17; name++) {
                x.peek(g, name);
            }
        }
        x.alike();
        x.reachable();
        x.result();
        x.place();
    }

    /** Nothing can be in the globals without a link, and no argument may do harm. */
    private static void withoutLink() {
        Checks.sentence("No types, nothing linked, two globals (0 and 1) that are null");
        int[] any = {LEAST, -17, -2, -1, 0, 1, 2, 7, 8, 15, 16, 31, GREATEST};
        GuestClassMachine x = new GuestClassMachine();
        x.type(-1);
        x.field(0);
        x.field(8);
        for (int g : any) {
            Checks.due("held", x.held(g), -1);
            Checks.due("clear", x.clear(g), g == 0 || g == 1);
            for (int name : any) {
                Checks.due("peek", x.peek(g, name), NO_VALUE);
                Checks.due("follow", x.follow(g, name), false);
            }
        }
        Checks.due("reachable", x.reachable(), 0);
        Checks.due("alike", x.alike(), false);
    }
}
