import java.util.function.Consumer;

/**
 * Promises 1 to 5, clause by clause: the last case that is still taken, the first that is not, and
 * where a call is refused, that it changes nothing.
 */
public final class AddingTest implements Codes {
    private static final int[] ANSWER = {LOAD, 1, RETURN};

    public static void main(String[] args) {
        newObject();
        typeNumbers();
        typeWhenLinked();
        typeWhenThereAreFive();
        typeBelowWhat();
        fieldWhenLinked();
        fieldWithoutType();
        fieldNames();
        fieldThatIsThere();
        fieldWhenThereAreFour();
        fieldsOfTheNewestType();
        methodWhenLinked();
        methodWithoutType();
        methodNames();
        methodThatIsThere();
        methodWhenThereAreEight();
        methodNumbers();
        codeWhenLinked();
        codeWithoutMethod();
        codeBytes();
        codeWhenThereAre32();
        codeOfTheNewestMethod();
        Checks.finish();
    }

    // ---- promise 1

    private static void newObject() {
        Checks.sentence("No types, nothing linked, two globals (0 and 1) that are null, result 0.");
        GuestClassMachine x = new GuestClassMachine();
        Checks.due("result", x.result(), 0);
        Checks.due("place", x.place(), -1);
        Checks.due("reachable", x.reachable(), 0);
        Checks.due("alike", x.alike(), false);
        for (int g = 0; g < 2; g++) {
            Checks.due("held", x.held(g), -1);
            for (int name = 0; name < 16; name++) {
                Checks.due("peek", x.peek(g, name), NO_VALUE);
                Checks.due("follow", x.follow(g, name), false);
            }
            Checks.due("clear", x.clear(g), true);
        }
        Checks.due("invoke", x.invoke(0, 0, 0), REFUSED);
        Checks.due("link", x.link(), EMPTY);
        Checks.due("type", x.type(0), -1);
        // Not linked: a type can be added, and is the first one.
        Checks.due("type", x.type(-1), 0);
    }

    // ---- promise 2

    private static void typeNumbers() {
        Checks.sentence("A new type with the next number (0 first)");
        GuestClassMachine x = new GuestClassMachine();
        for (int number = 0; number < 5; number++) {
            Checks.due("type", x.type(-1), number);
        }
        GuestClassMachine y = new GuestClassMachine();
        for (int number = 0; number < 5; number++) {
            Checks.due("type", y.type(number - 1), number);
        }
    }

    private static void typeWhenLinked() {
        Checks.sentence("-1, changing nothing, if linked");
        GuestClassMachine x = Guest.single(2, ANSWER);
        Checks.due("not yet linked", x.type(0), 1);
        Guest.link(x);
        Checks.due("type(-1)", x.type(-1), -1);
        Checks.due("type(0)", x.type(0), -1);
        Checks.due("no third type", x.invoke(2, 2, 0), REFUSED);
        x.reset();
        Checks.due("no more linked", x.type(-1), 0);
        Twins.unchanged("type(-1) when linked", Machines::used, z -> Checks.due("type(-1)", z.type(-1), -1));
        Twins.unchanged("type(1) when linked", Machines::used, z -> Checks.due("type(1)", z.type(1), -1));
    }

    private static void typeWhenThereAreFive() {
        Checks.sentence("-1, changing nothing, .. if there are 5 types");
        for (int above = -1; above < 6; above++) {
            int sixth = above;
            Twins.unchanged("the sixth type", Machines::fiveTypes, x -> Checks.due("sixth", x.type(sixth), -1));
        }
        GuestClassMachine x = new GuestClassMachine();
        for (int i = 0; i < 4; i++) {
            x.type(-1);
        }
        Checks.due("the fifth", x.type(3), 4);
        Checks.due("the sixth", x.type(3), -1);
        // NEW and IS know five types and no sixth.
        Guest.method(x, 2, LOAD, 1, RETURN, NEW, 4, IS, 4);
        Guest.method(x, 3, LOAD, 1, RETURN, IS, 5);
        Guest.links("five types", x, FORM, 32 + 3);
    }

    private static void typeBelowWhat() {
        Checks.sentence("-1, changing nothing, .. if above is neither -1 nor a type's number");
        for (int types = 0; types < 5; types++) {
            for (int above = -3; above < 9; above++) {
                GuestClassMachine x = new GuestClassMachine();
                for (int i = 0; i < types; i++) {
                    x.type(-1);
                }
                boolean fits = above >= -1 && above < types;
                Checks.due("type(" + above + ") with " + types, x.type(above), fits ? types : -1);
                Checks.due("the next one", x.type(-1), fits ? (types == 4 ? -1 : types + 1) : types);
            }
        }
        int[] wrong = {LEAST, -256, -3, -2, 2, 3, 4, 5, 6, 256, GREATEST};
        for (int above : wrong) {
            Twins.unchanged("type(" + above + ")", Machines::open, x -> Checks.due("type", x.type(above), -1));
            Twins.unchanged("type(" + above + ")", Machines::faulty, x -> Checks.due("type", x.type(above), -1));
        }
        Twins.unchanged("type(0)", Machines::nothing, x -> Checks.due("type(0)", x.type(0), -1));
        Twins.unchanged("type(-2)", Machines::nothing, x -> Checks.due("type(-2)", x.type(-2), -1));
    }

    // ---- promise 3

    private static void fieldWhenLinked() {
        Checks.sentence("field: False, changing nothing, if linked");
        GuestClassMachine x = Guest.single(2, LOAD, 0, GSTORE, 0, LOAD, 1, RETURN);
        Checks.due("not yet linked", x.field(1), true);
        Guest.link(x);
        Checks.due("field(0)", x.field(0), false);
        x.invoke(0, 2, 0);
        Checks.due("no such field", x.peek(0, 0), NO_VALUE);
        Checks.due("the other field", x.peek(0, 1), 0);
        for (int name = 0; name < 16; name++) {
            int one = name;
            Twins.unchanged("field when linked", Machines::used, z -> Checks.due("field", z.field(one), false));
        }
    }

    private static void fieldWithoutType() {
        Checks.sentence("field: False, changing nothing, .. there is no type");
        for (int name = 0; name < 16; name++) {
            int one = name;
            Twins.unchanged("field without type", Machines::nothing, x -> Checks.due("field", x.field(one), false));
            GuestClassMachine x = new GuestClassMachine();
            x.field(name);
            x.type(-1);
            Checks.due("with a type", x.field(name), true);
            x.reset();
            Checks.due("after reset", x.field((name + 1) % 16), false);
        }
    }

    private static void fieldNames() {
        Checks.sentence("field: False, changing nothing, .. name is outside 0..15");
        for (int name = 0; name < 16; name++) {
            GuestClassMachine x = new GuestClassMachine();
            x.type(-1);
            Checks.due("field(" + name + ")", x.field(name), true);
        }
        for (int name : NO_NAMES) {
            Twins.unchanged("field(" + name + ")", Machines::open, x -> Checks.due("field", x.field(name), false));
        }
    }

    private static void fieldThatIsThere() {
        Checks.sentence("the type (with those above it) has a field of that name");
        for (int name = 0; name < 16; name++) {
            GuestClassMachine x = new GuestClassMachine();
            x.type(-1);
            Checks.due("first", x.field(name), true);
            Checks.due("own", x.field(name), false);
            x.type(-1);
            Checks.due("beside", x.field(name), true);
            x.type(0);
            Checks.due("above", x.field(name), false);
            x.type(2);
            Checks.due("two above", x.field(name), false);
            x.type(3);
            Checks.due("three above", x.field(name), false);
            Checks.due("another", x.field((name + 1) % 16), true);
        }
        int[] there = {0, 8, 9};
        for (int name : there) {
            Twins.unchanged("field(" + name + ")", Machines::open, x -> Checks.due("field", x.field(name), false));
        }
        // A method of that name is no field.
        GuestClassMachine y = Guest.single(2, ANSWER);
        Checks.due("a method's name", y.field(2), true);
    }

    /** So many fields in the type above, so many in the newest one. */
    private static Consumer<GuestClassMachine> fields(int above, int own) {
        return x -> {
            x.type(-1);
            for (int name = 0; name < above; name++) {
                Checks.due("above", x.field(name), true);
            }
            x.type(0);
            for (int name = above; name < above + own; name++) {
                Checks.due("own", x.field(name), true);
            }
        };
    }

    private static void fieldWhenThereAreFour() {
        Checks.sentence("the type (with those above it) .. has 4 fields already");
        for (int above = 0; above <= 4; above++) {
            GuestClassMachine x = new GuestClassMachine();
            fields(above, 4 - above).accept(x);
            Checks.due(above + " above, the fifth", x.field(15), false);
            Consumer<GuestClassMachine> four = fields(above, 4 - above);
            Twins.unchanged("the fifth field", four, y -> Checks.due("the fifth", y.field(15), false));
        }
        GuestClassMachine x = new GuestClassMachine();
        x.type(-1);
        for (int name = 0; name < 4; name++) {
            Checks.due("own " + name, x.field(name), true);
        }
        Checks.due("the fifth", x.field(4), false);
        // Those of a type beside it don't count, and three above leave room for one.
        x.type(-1);
        Checks.due("beside", x.field(9), true);
        x.field(10);
        x.type(1);
        Checks.due("the third", x.field(11), true);
        x.type(2);
        Checks.due("the fourth", x.field(12), true);
        Checks.due("the fifth", x.field(13), false);
        x.type(3);
        Checks.due("four above", x.field(13), false);
    }

    private static void fieldsOfTheNewestType() {
        Checks.sentence("Adds a field to the newest type.");
        GuestClassMachine x = Guest.single(8, LOAD, 0, GSTORE, 0, NULL, RETURN);
        x.type(0);
        x.field(1);
        x.type(1);
        x.field(2);
        x.type(0);
        x.field(3);
        Guest.link(x);
        boolean[][] has = {{false, false, false}, {true, false, false}, {true, true, false}, {false, false, true}};
        for (int type = 0; type < 4; type++) {
            x.invoke(type, 8, 0);
            for (int name = 1; name < 4; name++) {
                Checks.due("field " + name + " of type " + type, x.peek(0, name), has[type][name - 1] ? 0 : NO_VALUE);
            }
        }
    }

    // ---- promise 4

    private static void methodWhenLinked() {
        Checks.sentence("method: False, changing nothing, if linked");
        GuestClassMachine x = Guest.single(2, ANSWER);
        Guest.link(x);
        for (int name = 0; name < 16; name++) {
            int one = name;
            Checks.due("method(" + name + ")", x.method(name), false);
            Checks.due("invoke of " + name, x.invoke(0, name, 0), name == 2 ? DONE : REFUSED);
            Twins.unchanged("method when linked", Machines::used, z -> Checks.due("method", z.method(one), false));
        }
    }

    private static void methodWithoutType() {
        Checks.sentence("method: False, changing nothing, .. there is no type");
        for (int name = 0; name < 16; name++) {
            int one = name;
            Twins.unchanged("method without type", Machines::nothing, x -> Checks.due("method", x.method(one), false));
            GuestClassMachine x = new GuestClassMachine();
            x.method(name);
            x.type(-1);
            Checks.due("code of none", x.code(0), false);
            Checks.due("with a type", x.method(name), true);
            x.reset();
            Checks.due("after reset", x.method((name + 1) % 16), false);
        }
    }

    private static void methodNames() {
        Checks.sentence("method: False, changing nothing, .. name is outside 0..15");
        for (int name = 0; name < 16; name++) {
            GuestClassMachine x = new GuestClassMachine();
            x.type(-1);
            Checks.due("method(" + name + ")", x.method(name), true);
        }
        for (int name : NO_NAMES) {
            Twins.unchanged("method(" + name + ")", Machines::open, x -> Checks.due("method", x.method(name), false));
            Twins.unchanged("method(" + name + ")", Machines::faulty, x -> Checks.due("method", x.method(name), false));
        }
    }

    private static void methodThatIsThere() {
        Checks.sentence("the type itself has a method of that name");
        for (int name = 0; name < 16; name++) {
            GuestClassMachine x = new GuestClassMachine();
            x.type(-1);
            Checks.due("first", x.method(name), true);
            Checks.due("own", x.method(name), false);
            Checks.due("own, another", x.method((name + 1) % 16), true);
            Checks.due("own, no more the newest", x.method(name), false);
            x.type(0);
            Checks.due("that of the type above", x.method(name), true);
            Checks.due("own again", x.method(name), false);
            x.type(-1);
            Checks.due("that of a type beside", x.method(name), true);
        }
        Twins.unchanged("method(3)", Machines::faulty, x -> Checks.due("method(3)", x.method(3), false));
        // A field of that name is no method.
        GuestClassMachine y = new GuestClassMachine();
        y.type(-1);
        y.field(5);
        Checks.due("a field's name", y.method(5), true);
    }

    private static void methodWhenThereAreEight() {
        Checks.sentence("method: False, changing nothing, .. there are 8 methods");
        GuestClassMachine x = new GuestClassMachine();
        x.type(-1);
        for (int i = 0; i < 8; i++) {
            Checks.due("method " + i, x.method(i), true);
        }
        Checks.due("the ninth", x.method(8), false);
        x.type(-1);
        Checks.due("the ninth in another type", x.method(0), false);
        GuestClassMachine y = new GuestClassMachine();
        for (int type = 0; type < 4; type++) {
            y.type(type - 1);
            Checks.due("two each", y.method(0), true);
            Checks.due("two each", y.method(1), true);
        }
        Checks.due("the ninth", y.method(2), false);
        Twins.unchanged("the ninth", Machines::eightMethods, z -> Checks.due("ninth", z.method(9), false));
        Twins.unchanged("the ninth, there already", Machines::eightMethods,
            z -> Checks.due("ninth", z.method(0), false));
    }

    private static void methodNumbers() {
        Checks.sentence("Adds a method without code to the newest type; methods are numbered 0, 1, .. over all types.");
        GuestClassMachine x = new GuestClassMachine();
        for (int m = 0; m < 8; m++) {
            if (m % 2 == 0) {
                x.type(m / 2 - 1);
            }
            x.method(m);
            Guest.links("without code", x, FORM, m * 32);
            Guest.write(x, PUSH, 30 + m, RETURN);
        }
        Guest.link(x);
        for (int type = 0; type < 4; type++) {
            for (int m = 0; m < 8; m++) {
                boolean has = m / 2 <= type;
                Checks.due("type " + type + ", method " + m, x.invoke(type, m, 0), has ? DONE : REFUSED);
                Checks.due("its answer", x.result(), has ? 30 + m : 31 + 2 * type);
            }
        }
    }

    // ---- promise 5

    private static void codeWhenLinked() {
        Checks.sentence("code: False, changing nothing, if linked");
        GuestClassMachine x = Guest.single(2, ANSWER);
        Guest.link(x);
        Checks.due("code(0)", x.code(0), false);
        Guest.run("as before", x, Guest.call(0, 2, 6), DONE, 6);
        Twins.unchanged("code when linked", Machines::used, z -> Checks.due("code(0)", z.code(0), false));
        Twins.unchanged("code when linked", Machines::used, z -> Checks.due("code(18)", z.code(18), false));
    }

    private static void codeWithoutMethod() {
        Checks.sentence("code: False, changing nothing, .. there is no method");
        Twins.unchanged("no type", Machines::nothing, x -> Checks.due("code(0)", x.code(0), false));
        Twins.unchanged("no method", x -> x.type(-1), x -> Checks.due("code(0)", x.code(0), false));
        GuestClassMachine x = Guest.single(2, ANSWER);
        x.reset();
        Checks.due("after reset", x.code(0), false);
        x.type(-1);
        Checks.due("after reset, a type", x.code(0), false);
        x.method(3);
        Checks.due("after reset, a method", x.code(0), true);
    }

    private static void codeBytes() {
        Checks.sentence("code: False, changing nothing, .. b is outside 0..255");
        for (int b = 0; b < 256; b++) {
            GuestClassMachine x = Guest.single(2, PUSH);
            Checks.due("code(" + b + ")", x.code(b), true);
            Guest.write(x, RETURN);
            Guest.link(x);
            Guest.run("PUSH " + b, x, Guest.call(0, 2, 0), DONE, (byte) b);
        }
        int[] wrong = {LEAST, -257, -256, -255, -128, -1, 256, 257, 511, 512, 65536, GREATEST};
        for (int b : wrong) {
            Twins.unchanged("code(" + b + ")", Machines::faulty, x -> Checks.due("code", x.code(b), false));
        }
    }

    private static Consumer<GuestClassMachine> methodOfLength(int length) {
        return x -> {
            x.type(-1);
            x.method(2);
            Guest.write(x, ANSWER);
            for (int i = ANSWER.length; i < length; i++) {
                Checks.due("byte " + i, x.code(POP), true);
            }
        };
    }

    private static void codeWhenThereAre32() {
        Checks.sentence("code: False, changing nothing, .. the method has 32 bytes");
        GuestClassMachine x = new GuestClassMachine();
        methodOfLength(31).accept(x);
        Checks.due("the 32nd", x.code(POP), true);
        Checks.due("the 33rd", x.code(21), false);
        Checks.due("the 33rd", x.code(0), false);
        x.method(3);
        Checks.due("the next method's first", x.code(POP), true);
        Guest.links("the next method alone is at fault", x, FLOW, 32);
        Twins.unchanged("the 33rd", methodOfLength(32), y -> Checks.due("the 33rd", y.code(21), false));
        Twins.unchanged("the 33rd", methodOfLength(32), y -> Checks.due("the 33rd", y.code(0), false));
        // Eight full methods.
        GuestClassMachine z = new GuestClassMachine();
        methodOfLength(32).accept(z);
        int[] names = {3, 0, 1, 10, 11, 8, 9};
        for (int name : names) {
            Guest.method(z, name, name < 8 ? PUSH : GLOAD, 1, RETURN);
            for (int i = 3; i < 32; i++) {
                Checks.due("byte " + i, z.code(NULL), true);
            }
            Checks.due("the 33rd of " + name, z.code(NULL), false);
        }
        Guest.link(z);
        Guest.run("the first of eight", z, Guest.call(0, 2, 9), DONE, 9);
        Guest.run("the last of eight", z, Guest.call(0, 9, 9), DONE, -1);
    }

    private static void codeOfTheNewestMethod() {
        Checks.sentence("Appends a byte to the newest method.");
        GuestClassMachine x = Guest.single(2, PUSH, 1, RETURN);
        x.method(3);
        x.type(0);
        x.field(1);
        x.type(-1);
        // The newer types have no method, so the newest one is still that of type 0.
        Guest.write(x, PUSH, 2, RETURN);
        Guest.method(x, 2, PUSH, 3, RETURN);
        Guest.link(x);
        Guest.run("0, 2", x, Guest.call(0, 2, 0), DONE, 1);
        Guest.run("0, 3", x, Guest.call(0, 3, 0), DONE, 2);
        Guest.run("1, 3", x, Guest.call(1, 3, 0), DONE, 2);
        Guest.run("2, 2", x, Guest.call(2, 2, 0), DONE, 3);
        Checks.due("2, 3", x.invoke(2, 3, 0), REFUSED);
    }
}
