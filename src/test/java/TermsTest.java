/** The sentences of "Terms" on names, on types and on what each instruction does; both sides of each edge. */
public final class TermsTest implements Codes {
    public static void main(String[] args) {
        namesOfMembers();
        namesInCode();
        kindsOfFields();
        kindsOfArguments();
        kindsOfAnswers();
        membersOfAllTypesAbove();
        ownMethodHides();
        pushedBytes();
        locals();
        poppedAndAnswered();
        restStaysAsItWas();
        emptyStackAtEachStart();
        less();
        same();
        jumps();
        newObjects();
        typeTests();
        globals();
        Checks.finish();
    }

    private static void namesOfMembers() {
        Checks.sentence("NAMES are 0..15.");
        for (int name = 0; name < 16; name++) {
            GuestClassMachine x = new GuestClassMachine();
            x.type(-1);
            Checks.due("field(" + name + ")", x.field(name), true);
            Guest.method(x, name, name < 8 ? PUSH : GLOAD, 0, RETURN);
            Guest.link(x);
            Guest.run("method " + name, x, Guest.call(0, name, 0), DONE, name < 8 ? 0 : -1);
        }
        for (int name : NO_NAMES) {
            GuestClassMachine x = new GuestClassMachine();
            x.type(-1);
            Checks.due("field(" + name + ")", x.field(name), false);
            Checks.due("method(" + name + ")", x.method(name), false);
            Guest.link(x);
            Checks.due("invoke of " + name, x.invoke(0, name, 0), REFUSED);
        }
    }

    private static void namesInCode() {
        Checks.sentence("NAMES are 0..15.");
        int[] ops = {GET, PUT, CALL};
        for (int op : ops) {
            for (int name = 0; name < 256; name++) {
                Guest.checked(2, name < 16 ? OK : FORM, name < 16 ? -1 : 3, LOAD, 1, RETURN, op, name);
            }
        }
    }

    private static void kindsOfFields() {
        Checks.sentence("A field of a name below 8 holds an INT, of a name from 8 a REF");
        for (int name = 0; name < 16; name++) {
            boolean isInt = name < 8;
            GuestClassMachine x = new GuestClassMachine();
            x.type(-1);
            x.field(name);
            Guest.method(x, 2, LOAD, 0, isInt ? PUSH : LOAD, isInt ? 200 : 0, PUT, name,
                LOAD, 0, GSTORE, 0, PUSH, 1, RETURN);
            Guest.method(x, 3, LOAD, 0, GSTORE, 1, PUSH, 1, RETURN);
            Guest.link(x);
            Guest.run("field " + name, x, Guest.call(0, 2, 0), DONE, 1);
            Guest.run("field " + name + " at first", x, Guest.call(0, 3, 0), DONE, 1);
            Checks.due("field " + name + " as put", x.peek(0, name), isInt ? -56 : 0);
            Checks.due("field " + name + " at first", x.peek(1, name), isInt ? 0 : -1);
            Guest.checked(2, isInt ? FLOW : OK, isInt ? 0 : -1, LOAD, 0, NULL, PUT, name, PUSH, 1, RETURN);
            Guest.checked(2, isInt ? OK : FLOW, isInt ? -1 : 0, LOAD, 0, PUSH, 1, PUT, name, PUSH, 1, RETURN);
            Guest.checked(0, isInt ? OK : FLOW, isInt ? -1 : 0, LOAD, 0, GET, name, RETURN);
            Guest.checked(8, isInt ? FLOW : OK, isInt ? 0 : -1, LOAD, 0, GET, name, RETURN);
        }
    }

    private static void kindsOfArguments() {
        Checks.sentence("one argument: a REF if bit 2 of the name is set (name & 4), else an INT");
        int[] takeRefs = {0, 0, 0, 0, 1, 1, 1, 1, 0, 0, 0, 0, 1, 1, 1, 1};
        for (int name = 0; name < 16; name++) {
            int asRef = takeRefs[name] == 1 ? OK : FLOW;
            int asInt = takeRefs[name] == 1 ? FLOW : OK;
            int give = name < 8 ? PUSH : GLOAD;
            Guest.checked(name, asRef, asRef == OK ? -1 : 0, LOAD, 1, IS, 0, POP, give, 0, RETURN);
            Guest.checked(name, asInt, asInt == OK ? -1 : 0, LOAD, 1, PUSH, 1, ADD, POP, give, 0, RETURN);
            int caller = name < 8 ? 0 : 8;
            Guest.checked(caller, asRef, asRef == OK ? -1 : 0, LOAD, 0, NULL, CALL, name, RETURN);
            Guest.checked(caller, asInt, asInt == OK ? -1 : 0, LOAD, 0, PUSH, 1, CALL, name, RETURN);
        }
    }

    private static void kindsOfAnswers() {
        Checks.sentence("it answers a REF if the name is 8 or more, else an INT");
        for (int name = 0; name < 16; name++) {
            boolean isInt = name < 8;
            Guest.checked(name, isInt ? OK : FLOW, isInt ? -1 : 0, PUSH, 1, RETURN);
            Guest.checked(name, isInt ? FLOW : OK, isInt ? 0 : -1, NULL, RETURN);
            int load = (name & 4) == 0 ? PUSH : GLOAD;
            Guest.checked(0, isInt ? OK : FLOW, isInt ? -1 : 0, LOAD, 0, load, 1, CALL, name, RETURN);
            Guest.checked(8, isInt ? FLOW : OK, isInt ? 0 : -1, LOAD, 0, load, 1, CALL, name, RETURN);
        }
    }

    /** A chain of five types, each with a field or a method of its own. */
    private static void membersOfAllTypesAbove() {
        Checks.sentence("A type has the fields and methods of all types above it");
        GuestClassMachine x = new GuestClassMachine();
        for (int type = 0; type < 5; type++) {
            Checks.due("type", x.type(type - 1), type);
            if (type < 4) {
                x.field(type);
            }
            Guest.method(x, type, PUSH, 10 + type, RETURN);
        }
        Guest.method(x, 8, LOAD, 0, GSTORE, 0, NULL, RETURN);
        Guest.link(x);
        for (int type = 0; type < 5; type++) {
            for (int name = 0; name < 5; name++) {
                Checks.due("method " + name + " of type " + type, x.invoke(type, name, 0),
                    name <= type ? DONE : REFUSED);
            }
        }
        Guest.run("the lowest type's own", x, Guest.call(4, 4, 0), DONE, 14);
        Guest.run("from four above", x, Guest.call(4, 0, 0), DONE, 10);
        x.invoke(4, 8, 0);
        for (int name = 0; name < 5; name++) {
            Checks.due("field " + name + " of type 4", x.peek(0, name), name < 4 ? 0 : NO_VALUE);
        }
    }

    private static void ownMethodHides() {
        Checks.sentence("its own method hides one of the same name above");
        GuestClassMachine x = Guest.single(2, PUSH, 1, RETURN);
        Guest.method(x, 3, LOAD, 0, LOAD, 1, CALL, 2, RETURN);
        x.type(0);
        x.type(1);
        Guest.method(x, 2, PUSH, 2, RETURN);
        x.type(2);
        x.type(0);
        Guest.link(x);
        int[] due = {1, 1, 2, 2, 1};
        for (int type = 0; type < 5; type++) {
            Guest.run("invoked on type " + type, x, Guest.call(type, 2, 0), DONE, due[type]);
            Guest.run("called on type " + type, x, Guest.call(type, 3, 0), DONE, due[type]);
        }
    }

    private static void pushedBytes() {
        Checks.sentence("PUSH: b as a signed byte (200 is -56)");
        for (int b = 0; b < 256; b++) {
            Guest.gives(2, 0, DONE, b < 128 ? b : b - 256, PUSH, b, RETURN);
        }
    }

    private static void locals() {
        Checks.sentence("A method has four locals: 0 the receiver, 1 the argument");
        Guest.gives(8, 0, DONE, 0, LOAD, 0, RETURN);
        Guest.gives(2, 41, DONE, 41, LOAD, 1, RETURN);
        for (int local = 0; local < 4; local++) {
            Guest.gives(2, 9, DONE, 40 + local, PUSH, 40, STORE, 0, PUSH, 41, STORE, 1, PUSH, 42, STORE, 2,
                PUSH, 43, STORE, 3, LOAD, local, RETURN);
            Guest.gives(2, 9, DONE, 1, NULL, STORE, local, LOAD, local, NULL, SAME, RETURN);
        }
        Guest.form(2, PUSH, 1, STORE, 4, LOAD, 1, RETURN);
        Guest.form(0, LOAD, 4, RETURN);
    }

    private static void poppedAndAnswered() {
        Checks.sentence("Stack effects are written before -> after, topmost last");
        Guest.gives(2, 9, DONE, 4, PUSH, 4, LOAD, 1, POP, RETURN);
        Guest.gives(2, 9, DONE, 9, PUSH, 4, LOAD, 1, RETURN);
        Guest.gives(2, 9, DONE, 5, LOAD, 1, PUSH, 4, SUB, RETURN);
        Guest.gives(2, 9, DONE, 2, LOAD, 1, PUSH, 4, DIV, RETURN);
        Guest.gives(2, 9, DONE, 0, LOAD, 1, PUSH, 4, LESS, RETURN);
        Guest.gives(2, 9, DONE, 9, PUSH, 1, PUSH, 2, PUSH, 3, PUSH, 4, LOAD, 1, RETURN);
    }

    /** Each instruction with an entry below those it takes, and with all locals set. */
    private static void restStaysAsItWas() {
        Checks.sentence("Stack effects are written before -> after, topmost last");
        int[][] giving = {{PUSH, 1}, {LOAD, 0}, {LOAD, 1}, {LOAD, 2}, {LOAD, 3}, {PUSH, 6, PUSH, 3, ADD},
            {PUSH, 6, PUSH, 3, SUB}, {PUSH, 6, PUSH, 3, MUL}, {PUSH, 6, PUSH, 3, DIV}, {PUSH, 6, PUSH, 3, LESS},
            {NULL, NULL, SAME}, {NULL}, {NEW, 0}, {LOAD, 0, GET, 0}, {LOAD, 0, GET, 8}, {LOAD, 0, IS, 0},
            {LOAD, 0, PUSH, 5, CALL, 3}, {LOAD, 0, NULL, CALL, 12}, {GLOAD, 0}, {GLOAD, 1}};
        int[][] silent = {{PUSH, 1, STORE, 0}, {PUSH, 1, STORE, 1}, {PUSH, 1, POP}, {NULL, POP},
            {LOAD, 0, PUSH, 5, PUT, 0}, {LOAD, 0, NULL, PUT, 8}, {LOAD, 0, LOAD, 0, PUT, 8}, {NULL, GSTORE, 0},
            {LOAD, 0, GSTORE, 1}, {JUMP, 12}, {PUSH, 0, JZERO, 14}, {PUSH, 1, JZERO, 14}};
        for (int[] code : giving) {
            restStays(Guest.join(code, Guest.code(POP)));
        }
        for (int[] code : silent) {
            restStays(code);
        }
    }

    private static void restStays(int[] code) {
        GuestClassMachine x = new GuestClassMachine();
        x.type(-1);
        x.field(0);
        x.field(8);
        Guest.method(x, 2, Guest.join(Guest.code(PUSH, 22, STORE, 2, PUSH, 33, STORE, 3, PUSH, 44), code,
            Guest.code(LOAD, 2, ADD, LOAD, 3, ADD, RETURN)));
        Guest.method(x, 3, PUSH, 1, PUSH, 2, STORE, 2, PUSH, 3, STORE, 3, NULL, PUSH, 1, PUSH, 2, RETURN);
        Guest.method(x, 12, NULL, STORE, 2, PUSH, 3, STORE, 3, NULL, PUSH, 1, NULL, RETURN);
        Guest.link(x);
        Guest.run(java.util.Arrays.toString(code), x, Guest.call(0, 2, 9), DONE, 99);
    }

    /** Entries are left behind by answers and by other ends; the next method begins without them. */
    private static void emptyStackAtEachStart() {
        Checks.sentence("A way goes from byte 0, with an empty stack");
        GuestClassMachine x = Guest.single(2, PUSH, 1, PUSH, 2, PUSH, 3, PUSH, 4, LOAD, 1, RETURN);
        Guest.method(x, 3, PUSH, 1, PUSH, 2, LOAD, 0, LOAD, 1, CALL, 2, RETURN);
        Guest.method(x, 0, PUSH, 1, PUSH, 2, PUSH, 3, PUSH, 4, LOAD, 1, DIV, RETURN);
        Guest.method(x, 1, PUSH, 1, PUSH, 2, PUSH, 3, LOAD, 0, LOAD, 1, CALL, 0, ADD, ADD, ADD, RETURN);
        Guest.link(x);
        for (int i = 1; i < 20; i++) {
            Guest.run("answered", x, Guest.call(0, 2, i), DONE, i);
            Guest.run("answered twice", x, Guest.call(0, 3, i), DONE, i);
            Guest.run("thrown", x, Guest.call(0, 0, 0), THROWN, 2);
            Guest.run("thrown in a call", x, Guest.call(0, 1, 0), THROWN, 2);
            Guest.run("added up", x, Guest.call(0, 1, 2), DONE, 8);
        }
    }

    private static void less() {
        Checks.sentence("LESS: 1 if first < second, else 0");
        int[] values = {-128, -2, -1, 0, 1, 2, 127};
        for (int first : values) {
            for (int second : values) {
                Guest.gives(2, first, DONE, first < second ? 1 : 0, LOAD, 1, PUSH, second & 255, LESS, RETURN);
            }
            // A difference would wrap around here.
            Guest.gives(2, LEAST, DONE, 1, LOAD, 1, PUSH, first & 255, LESS, RETURN);
            Guest.gives(2, GREATEST, DONE, 0, LOAD, 1, PUSH, first & 255, LESS, RETURN);
            Guest.gives(2, LEAST, DONE, 0, PUSH, first & 255, LOAD, 1, LESS, RETURN);
            Guest.gives(2, GREATEST, DONE, 1, PUSH, first & 255, LOAD, 1, LESS, RETURN);
        }
        Guest.gives(2, LEAST, DONE, 0, LOAD, 1, LOAD, 1, LESS, RETURN);
        Guest.gives(2, GREATEST, DONE, 0, LOAD, 1, LOAD, 1, LESS, RETURN);
    }

    private static void same() {
        Checks.sentence("SAME: 1 if the very same or both null");
        Guest.gives(2, 0, DONE, 1, NULL, NULL, SAME, RETURN);
        Guest.gives(2, 0, DONE, 1, LOAD, 0, LOAD, 0, SAME, RETURN);
        Guest.gives(2, 0, DONE, 0, NULL, LOAD, 0, SAME, RETURN);
        Guest.gives(2, 0, DONE, 0, LOAD, 0, NULL, SAME, RETURN);
        Guest.gives(2, 0, DONE, 0, NEW, 0, NEW, 0, SAME, RETURN);
    }

    private static void jumps() {
        Checks.sentence("JUMP: on to the byte b; JZERO: on to the byte b if i is 0");
        Guest.gives(2, 0, DONE, 7, JUMP, 5, PUSH, 9, RETURN, PUSH, 7, RETURN);
        int[] notZero = {LEAST, -1, 1, 256, 65536, 16777216, GREATEST};
        int[] code = {LOAD, 1, JZERO, 7, PUSH, 9, RETURN, PUSH, 7, RETURN};
        Guest.gives(2, 0, DONE, 7, code);
        for (int i : notZero) {
            Guest.gives(2, i, DONE, 9, code);
        }
    }

    /** Ten objects are filled and held, then let go; each new one is empty again, however it is made. */
    private static void newObjects() {
        Checks.sentence("NEW: a new object of type b, all fields 0 or null");
        GuestClassMachine x = new GuestClassMachine();
        x.type(-1);
        x.field(0);
        x.field(7);
        x.field(8);
        x.field(15);
        // Fills the receiver and puts it in front of those in global 0.
        Guest.method(x, 2, LOAD, 0, LOAD, 1, PUT, 0, LOAD, 0, LOAD, 1, PUT, 7, LOAD, 0, GLOAD, 0, PUT, 8,
            LOAD, 0, LOAD, 0, PUT, 15, LOAD, 0, GSTORE, 0, LOAD, 1, RETURN);
        // Answers 2 for an empty receiver, and fills it.
        Guest.method(x, 3, LOAD, 0, GET, 0, LOAD, 0, GET, 7, ADD, LOAD, 0, GET, 8, NULL, SAME, ADD,
            LOAD, 0, GET, 15, NULL, SAME, ADD, LOAD, 0, LOAD, 1, CALL, 2, POP, RETURN);
        Guest.method(x, 1, NULL, STORE, 0, NEW, 0, LOAD, 1, CALL, 3, RETURN);
        Guest.link(x);
        for (int round = 0; round < 3; round++) {
            for (int i = 0; i < 10; i++) {
                Guest.run("empty receiver", x, Guest.call(0, 3, 77), DONE, 2);
            }
            x.clear(0);
            for (int i = 0; i < 10; i++) {
                Guest.run("empty after NEW", x, Guest.call(0, 1, 78), DONE, 2);
            }
            x.clear(0);
        }
    }

    /** Type 2 is below 1, 1 below 0; 3 is beside 1; 4 stands alone. */
    private static void typeTests() {
        Checks.sentence("IS: 1 if r is an object of type b or of one below it, else 0");
        int[] above = {-1, 0, 1, 0, -1};
        int[][] due = {{1, 0, 0, 0, 0}, {1, 1, 0, 0, 0}, {1, 1, 1, 0, 0}, {1, 0, 0, 1, 0}, {0, 0, 0, 0, 1}};
        for (int b = 0; b < 5; b++) {
            GuestClassMachine x = new GuestClassMachine();
            for (int type = 0; type < 5; type++) {
                x.type(above[type]);
                if (above[type] == -1) {
                    Guest.method(x, 2, LOAD, 0, IS, b, RETURN);
                    Guest.method(x, 6, LOAD, 1, IS, b, RETURN);
                }
            }
            Guest.link(x);
            for (int type = 0; type < 5; type++) {
                Guest.run("type " + type + " IS " + b, x, Guest.call(type, 2, 0), DONE, due[type][b]);
                Guest.run("null IS " + b, x, Guest.call(type, 6, 0), DONE, 0);
            }
        }
    }

    private static void globals() {
        Checks.sentence("GLOAD: the global b; GSTORE");
        for (int g = 0; g < 2; g++) {
            GuestClassMachine x = Guest.single(2, LOAD, 0, GSTORE, g, GLOAD, g, LOAD, 0, SAME, RETURN);
            Guest.method(x, 3, NULL, GSTORE, g, GLOAD, 1 - g, LOAD, 0, SAME, RETURN);
            Guest.method(x, 4, GLOAD, g, NULL, SAME, RETURN);
            Guest.link(x);
            Guest.run("null at first", x, Guest.call(0, 4, 0), DONE, 1);
            Guest.run("stored", x, Guest.call(0, 2, 0), DONE, 1);
            Guest.run("held on", x, Guest.call(0, 4, 0), DONE, 0);
            Checks.due("held(" + g + ")", x.held(g), 0);
            Checks.due("held(" + (1 - g) + ")", x.held(1 - g), -1);
            Guest.run("made null", x, Guest.call(0, 3, 0), DONE, 0);
            Checks.due("held(" + g + ")", x.held(g), -1);
        }
    }
}
