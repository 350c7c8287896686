/** Promises 1 to 5 and 8: a new object, type, field, method, code, reset. */
public final class BuildTest implements Codes {
    private static final int[] FAR = {-2147483648, -1000, -2, 16, 17, 31, 32, 256, 1000, 2147483647};

    public static void main(String[] args) {
        newObject();
        twoObjectsAreApart();
        types();
        fields();
        fieldsOfTypesAbove();
        methods();
        codes();
        nothingIsAddedOnceLinked();
        resetGivesAllUp();
        resetKeepsThePlace();
        Checks.finish();
    }

    private static void newObject() {
        GuestClassMachine x = new GuestClassMachine();
        Checks.due("new: result", x.result(), 0);
        Checks.due("new: place", x.place(), -1);
        Checks.due("new: held(0)", x.held(0), -1);
        Checks.due("new: held(1)", x.held(1), -1);
        Checks.due("new: alike", x.alike(), false);
        Checks.due("new: reachable", x.reachable(), 0);
        Checks.due("new: invoke", x.invoke(0, 0, 0), REFUSED);
        Checks.due("new: field", x.field(0), false);
        Checks.due("new: method", x.method(0), false);
        Checks.due("new: code", x.code(0), false);
        Checks.due("new: link", x.link(), EMPTY);
        Checks.due("new: first type", x.type(-1), 0);
    }

    private static void twoObjectsAreApart() {
        GuestClassMachine x = new GuestClassMachine();
        GuestClassMachine y = new GuestClassMachine();
        x.type(-1);
        Checks.due("apart: link", y.link(), EMPTY);
    }

    private static void types() {
        GuestClassMachine x = new GuestClassMachine();
        Checks.due("type(0) with none", x.type(0), -1);
        Checks.due("type(-1)", x.type(-1), 0);
        for (int above : FAR) {
            Checks.due("type(" + above + ")", x.type(above), -1);
        }
        Checks.due("type(1) with one", x.type(1), -1);
        Checks.due("type(0)", x.type(0), 1);
        Checks.due("type(0) again", x.type(0), 2);
        Checks.due("type(2)", x.type(2), 3);
        Checks.due("type(4) with four", x.type(4), -1);
        Checks.due("type(-1) the fifth", x.type(-1), 4);
        Checks.due("type(-1) the sixth", x.type(-1), -1);
        Checks.due("type(0) the sixth", x.type(0), -1);
    }

    private static void fields() {
        GuestClassMachine x = new GuestClassMachine();
        x.type(-1);
        for (int name : FAR) {
            Checks.due("field(" + name + ")", x.field(name), false);
        }
        Checks.due("field(-1)", x.field(-1), false);
        Checks.due("field(0)", x.field(0), true);
        Checks.due("field(0) again", x.field(0), false);
        Checks.due("field(15)", x.field(15), true);
        Checks.due("field(15) again", x.field(15), false);
        Checks.due("field(7)", x.field(7), true);
        Checks.due("field(8)", x.field(8), true);
        Checks.due("field(1) the fifth", x.field(1), false);
    }

    private static void fieldsOfTypesAbove() {
        GuestClassMachine x = new GuestClassMachine();
        x.type(-1);
        x.field(3);
        x.field(9);
        x.type(-1);
        Checks.due("not above: field(3)", x.field(3), true);
        x.type(0);
        Checks.due("above: field(3)", x.field(3), false);
        Checks.due("above: field(4)", x.field(4), true);
        x.type(2);
        Checks.due("two above: field(9)", x.field(9), false);
        Checks.due("two above: field(5), the fourth", x.field(5), true);
        Checks.due("two above: field(6), the fifth", x.field(6), false);
        x.type(3);
        Checks.due("four above: field(6)", x.field(6), false);
    }

    private static void methods() {
        GuestClassMachine x = new GuestClassMachine();
        x.type(-1);
        for (int name : FAR) {
            Checks.due("method(" + name + ")", x.method(name), false);
        }
        Checks.due("method(-1)", x.method(-1), false);
        Checks.due("method(0)", x.method(0), true);
        Checks.due("method(0) again", x.method(0), false);
        Checks.due("method(15)", x.method(15), true);
        x.type(0);
        Checks.due("method(0) below", x.method(0), true);
        Checks.due("method(0) below again", x.method(0), false);
        x.type(-1);
        for (int name = 4; name < 9; name++) {
            Checks.due("method(" + name + ")", x.method(name), true);
        }
        Checks.due("method(9) the ninth", x.method(9), false);
    }

    private static void codes() {
        GuestClassMachine x = new GuestClassMachine();
        x.type(-1);
        Checks.due("code without a method", x.code(0), false);
        x.method(2);
        Checks.due("code(-1)", x.code(-1), false);
        Checks.due("code(256)", x.code(256), false);
        Checks.due("code(-2147483648)", x.code(-2147483648), false);
        Checks.due("code(2147483647)", x.code(2147483647), false);
        Checks.due("code(255)", x.code(255), true);
        Checks.due("link", x.link(), FORM);
        for (int i = 1; i < 32; i++) {
            Checks.due("byte " + i, x.code(0), true);
        }
        Checks.due("the 33rd byte", x.code(0), false);
        x.method(3);
        Checks.due("the next method's byte", x.code(0), true);
        codeGoesToTheNewestMethod();
    }

    private static void codeGoesToTheNewestMethod() {
        GuestClassMachine x = new GuestClassMachine();
        x.type(-1);
        x.method(2);
        x.type(-1);
        Checks.due("code of the older type's method", x.code(LOAD), true);
        x.code(1);
        x.code(RETURN);
        Guest.link(x);
        Guest.run("older", x, Guest.call(0, 2, 12), DONE, 12);
        Checks.due("newer has none", x.invoke(1, 2, 12), REFUSED);
    }

    private static void nothingIsAddedOnceLinked() {
        GuestClassMachine x = Guest.single(2, LOAD, 1, RETURN);
        Guest.link(x);
        Checks.due("linked: type(-1)", x.type(-1), -1);
        Checks.due("linked: type(0)", x.type(0), -1);
        Checks.due("linked: field", x.field(0), false);
        Checks.due("linked: method", x.method(0), false);
        Checks.due("linked: code", x.code(0), false);
        Checks.due("linked: invoke(1, ..)", x.invoke(1, 2, 0), REFUSED);
        Checks.due("linked: link", x.link(), OK);
        Guest.run("linked", x, Guest.call(0, 2, -9), DONE, -9);
    }

    private static void resetGivesAllUp() {
        GuestClassMachine x = new GuestClassMachine();
        x.type(-1);
        x.field(1);
        Guest.method(x, 2, LOAD, 0, GSTORE, 0, LOAD, 0, GSTORE, 1,
            LOAD, 1, RETURN);
        Guest.link(x);
        Guest.run("before reset", x, Guest.call(0, 2, 5), DONE, 5);
        Checks.due("before reset: alike", x.alike(), true);
        x.reset();
        Checks.due("reset: result", x.result(), 0);
        Checks.due("reset: held(0)", x.held(0), -1);
        Checks.due("reset: held(1)", x.held(1), -1);
        Checks.due("reset: alike", x.alike(), false);
        Checks.due("reset: reachable", x.reachable(), 0);
        Checks.due("reset: invoke", x.invoke(0, 2, 5), REFUSED);
        Checks.due("reset: field", x.field(0), false);
        Checks.due("reset: method", x.method(0), false);
        Checks.due("reset: code", x.code(0), false);
        Checks.due("reset: link", x.link(), EMPTY);
        Checks.due("reset: type(0)", x.type(0), -1);
        Checks.due("reset: type(-1)", x.type(-1), 0);
        Checks.due("reset: code without a method", x.code(0), false);
        Checks.due("reset: field(1)", x.field(1), true);
        Checks.due("reset: method(2)", x.method(2), true);
        Checks.due("reset: the method has no code", x.link(), FORM);
    }

    private static void resetKeepsThePlace() {
        GuestClassMachine x = Guest.single(2, LOAD, 1, 99);
        Checks.due("link", x.link(), FORM);
        x.reset();
        Checks.due("reset: place", x.place(), 2);
        x.type(-1);
        Checks.due("reset, type: place", x.place(), 2);
        Guest.link(x);
        Checks.due("reset, link: place", x.place(), -1);
        x.reset();
        Checks.due("link, reset: place", x.place(), -1);
    }
}
