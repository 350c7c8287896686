/** The sentences of "Terms" on a run: its ints, how it ends and its ticks; both sides of each edge. */
public final class EndsTest implements Codes {
    /** Uses as many ticks as its argument tells, then goes on at byte 13 with 0 in local 1. */
    private static final int[] BURN = {LOAD, 1, JZERO, 13, LOAD, 1, PUSH, 1, SUB, STORE, 1, JUMP, 0};

    public static void main(String[] args) {
        wrapAround();
        division();
        thrownOnNull();
        thrownByZero();
        thrownWithoutField();
        nothingIsPutWithoutField();
        thrownWithoutMethod();
        thrownTooDeep();
        answeredMethodsAreNotActive();
        wholeInvocationEnds();
        orderOfTheTestsOfCall();
        whatUsesNoTick();
        whatUsesTicks();
        stopsAtItsOwnByte();
        testsOfCallComeBeforeItsTick();
        ticksOfOneInvocation();
        whatWasDoneStays();
        Checks.finish();
    }

    private static void wrapAround() {
        Checks.sentence("Ints have 32 bits and wrap");
        Guest.gives(2, GREATEST, DONE, GREATEST, LOAD, 1, PUSH, 0, ADD, RETURN);
        Guest.gives(2, GREATEST - 1, DONE, GREATEST, LOAD, 1, PUSH, 1, ADD, RETURN);
        Guest.gives(2, GREATEST, DONE, LEAST, LOAD, 1, PUSH, 1, ADD, RETURN);
        Guest.gives(2, LEAST, DONE, 0, LOAD, 1, LOAD, 1, ADD, RETURN);
        Guest.gives(2, LEAST, DONE, GREATEST, LOAD, 1, PUSH, 255, ADD, RETURN);
        Guest.gives(2, LEAST + 1, DONE, LEAST, LOAD, 1, PUSH, 1, SUB, RETURN);
        Guest.gives(2, LEAST, DONE, GREATEST, LOAD, 1, PUSH, 1, SUB, RETURN);
        Guest.gives(2, LEAST, DONE, LEAST, PUSH, 0, LOAD, 1, SUB, RETURN);
        Guest.gives(2, GREATEST, DONE, LEAST, LOAD, 1, PUSH, 255, SUB, RETURN);
        Guest.gives(2, 46340, DONE, 2147395600, LOAD, 1, LOAD, 1, MUL, RETURN);
        Guest.gives(2, 46341, DONE, -2147479015, LOAD, 1, LOAD, 1, MUL, RETURN);
        Guest.gives(2, 65536, DONE, 0, LOAD, 1, LOAD, 1, MUL, RETURN);
        Guest.gives(2, GREATEST, DONE, 1, LOAD, 1, LOAD, 1, MUL, RETURN);
        Guest.gives(2, LEAST, DONE, LEAST, LOAD, 1, PUSH, 255, MUL, RETURN);
    }

    private static void division() {
        Checks.sentence("DIV cuts off towards zero, -2147483648 / -1 is -2147483648");
        divided(7, 2, 3);
        divided(-7, 2, -3);
        divided(7, -2, -3);
        divided(-7, -2, 3);
        divided(8, 2, 4);
        divided(-8, 2, -4);
        divided(1, 2, 0);
        divided(-1, 2, 0);
        divided(0, 5, 0);
        divided(0, -5, 0);
        divided(LEAST, -1, LEAST);
        divided(LEAST, 1, LEAST);
        divided(LEAST, 2, -1073741824);
        divided(LEAST + 1, -1, GREATEST);
        divided(GREATEST, -1, LEAST + 1);
        divided(GREATEST, 1, GREATEST);
    }

    private static void divided(int first, int second, int due) {
        Guest.gives(2, first, DONE, due, LOAD, 1, PUSH, second & 255, DIV, RETURN);
    }

    private static void thrownOnNull() {
        Checks.sentence("1 GET, PUT or CALL on null");
        for (int name = 0; name < 16; name++) {
            int[] give = name < 8 ? Guest.code(PUSH, 5) : Guest.code(LOAD, 0);
            int[] argument = (name & 4) == 0 ? Guest.code(PUSH, 5) : Guest.code(LOAD, 0);
            int[] end = {POP, PUSH, 1, RETURN};
            onNullAndObject(name, Guest.code(GET, name), end);
            onNullAndObject(name, Guest.join(give, Guest.code(PUT, name)), Guest.code(PUSH, 1, RETURN));
            onNullAndObject(name, Guest.join(argument, Guest.code(CALL, name)), end);
        }
    }

    /** The one type has a field and a method of that name. */
    private static void onNullAndObject(int name, int[] use, int[] end) {
        GuestClassMachine x = new GuestClassMachine();
        x.type(-1);
        x.field(name);
        Guest.method(x, name, name < 8 ? PUSH : GLOAD, 0, RETURN);
        x.type(0);
        Guest.method(x, name == 2 ? 1 : 2, Guest.join(Guest.code(NULL), use, end));
        Guest.method(x, name == 3 ? 1 : 3, Guest.join(Guest.code(NEW, 0), use, end));
        Guest.link(x);
        Guest.run("on null, name " + name, x, Guest.call(1, name == 2 ? 1 : 2, 0), THROWN, 1);
        Guest.run("on an object, name " + name, x, Guest.call(1, name == 3 ? 1 : 3, 0), DONE, 1);
    }

    private static void thrownByZero() {
        Checks.sentence("2 DIV by 0");
        int[] firsts = {LEAST, -1, 0, 1, GREATEST};
        for (int first : firsts) {
            Guest.gives(2, first, THROWN, 2, LOAD, 1, PUSH, 0, DIV, RETURN);
            Guest.gives(2, first, DONE, first, LOAD, 1, PUSH, 1, DIV, RETURN);
            Guest.gives(2, first, first == 0 ? THROWN : DONE, first == 0 ? 2 : 0,
                PUSH, 0, LOAD, 1, DIV, RETURN);
        }
        // Zero comes about by a wrap-around too.
        Guest.gives(2, LEAST, THROWN, 2, PUSH, 1, LOAD, 1, LOAD, 1, ADD, DIV, RETURN);
    }

    private static void thrownWithoutField() {
        Checks.sentence("3 GET or PUT where the object's type has no field of that name");
        for (int name = 0; name < 16; name++) {
            int[] give = name < 8 ? Guest.code(PUSH, 5) : Guest.code(NULL);
            GuestClassMachine x = new GuestClassMachine();
            x.type(-1);
            x.field((name + 1) % 16);
            Guest.method(x, 2, LOAD, 0, GET, name, POP, PUSH, 1, RETURN);
            Guest.method(x, 3, Guest.join(Guest.code(LOAD, 0), give, Guest.code(PUT, name, PUSH, 1, RETURN)));
            // Below it with that field, beside it without, and one that is beside and has it.
            x.type(0);
            x.field(name);
            x.type(0);
            x.type(1);
            x.type(-1);
            x.field(name);
            Guest.link(x);
            int[] outcomes = {THROWN, DONE, THROWN, DONE};
            for (int type = 0; type < 4; type++) {
                int due = outcomes[type] == DONE ? 1 : 3;
                Guest.run("GET " + name + " of type " + type, x, Guest.call(type, 2, 0), outcomes[type], due);
                Guest.run("PUT " + name + " of type " + type, x, Guest.call(type, 3, 0), outcomes[type], due);
            }
        }
    }

    /** What couldn't be put is not held by the object, nor by what is made in its place later. */
    private static void nothingIsPutWithoutField() {
        Checks.sentence("3 GET or PUT where the object's type has no field of that name");
        for (int name = 8; name < 16; name++) {
            GuestClassMachine x = Guest.single(2, LOAD, 0, GSTORE, 0, LOAD, 0, NEW, 0, PUT, name, PUSH, 1, RETURN);
            Guest.method(x, 3, NULL, NEW, 0, PUT, name, PUSH, 1, RETURN);
            Guest.link(x);
            for (int i = 0; i < 12; i++) {
                Guest.run("PUT " + name, x, Guest.call(0, 2, 0), THROWN, 3);
                Checks.due("reachable", x.reachable(), 1);
                Guest.run("PUT " + name + " on null", x, Guest.call(0, 3, 0), THROWN, 1);
                Checks.due("reachable", x.reachable(), 1);
            }
        }
    }

    private static void thrownWithoutMethod() {
        Checks.sentence("4 CALL where it has no such method");
        for (int name = 0; name < 16; name++) {
            int[] argument = (name & 4) == 0 ? Guest.code(PUSH, 5) : Guest.code(NULL);
            GuestClassMachine x = new GuestClassMachine();
            x.type(-1);
            x.field(name);
            int caller = name == 2 ? 3 : 2;
            Guest.method(x, caller, Guest.join(Guest.code(LOAD, 0), argument, Guest.code(CALL, name),
                Guest.code(POP, PUSH, 1, RETURN)));
            x.type(0);
            Guest.method(x, name, name < 8 ? PUSH : GLOAD, 0, RETURN);
            x.type(0);
            x.type(1);
            Guest.link(x);
            int[] outcomes = {THROWN, DONE, THROWN, DONE};
            for (int type = 0; type < 4; type++) {
                int due = outcomes[type] == DONE ? 1 : 4;
                Guest.run("CALL " + name + " of type " + type, x, Guest.call(type, caller, 0), outcomes[type], due);
            }
        }
    }

    private static void thrownTooDeep() {
        Checks.sentence("5 a CALL when 6 methods are active");
        // Calls itself as often as the argument tells.
        GuestClassMachine x = Guest.single(2, LOAD, 1, JZERO, 14, LOAD, 0, LOAD, 1, PUSH, 1, SUB,
            CALL, 2, RETURN, PUSH, 77, RETURN);
        Guest.link(x);
        for (int calls = 0; calls < 9; calls++) {
            boolean fits = calls <= 5;
            Guest.run(calls + " calls", x, Guest.call(0, 2, calls), fits ? DONE : THROWN, fits ? 77 : 5);
        }
    }

    private static void answeredMethodsAreNotActive() {
        Checks.sentence("5 a CALL when 6 methods are active");
        // Four waiting methods, the fifth calls three times: each time the sixth has answered.
        GuestClassMachine x = Guest.single(2, LOAD, 1, JZERO, 14, LOAD, 0, LOAD, 1, PUSH, 1, SUB,
            CALL, 2, RETURN, LOAD, 0, PUSH, 5, CALL, 3, LOAD, 0, PUSH, 6, CALL, 3, ADD, RETURN);
        Guest.method(x, 3, LOAD, 1, RETURN);
        Guest.link(x);
        Guest.run("five and then the sixth twice", x, Guest.call(0, 2, 4), DONE, 11);
        Guest.run("six and then a seventh", x, Guest.call(0, 2, 5), THROWN, 5);
        Guest.run("five and then the sixth twice", x, Guest.call(0, 2, 4), DONE, 11);
    }

    private static void wholeInvocationEnds() {
        Checks.sentence("These end the whole invocation with THROWN and a code");
        ends(THROWN, 1, NULL, GET, 0, RETURN);
        ends(THROWN, 2, PUSH, 1, PUSH, 0, DIV, RETURN);
        ends(THROWN, 3, LOAD, 0, GET, 0, RETURN);
        ends(THROWN, 4, LOAD, 0, PUSH, 0, CALL, 0, RETURN);
        ends(THROWN, 5, LOAD, 0, PUSH, 0, CALL, 3, RETURN);
        ends(THROWN, 6, NEW, 0, STORE, 2, LOAD, 2, GLOAD, 0, PUT, 8, LOAD, 2, GSTORE, 0, JUMP, 0);
        ends(STOPPED, 0, JUMP, 0);
        ends(DONE, 1, PUSH, 1, RETURN);
    }

    /** Three methods deep; the two above would set global 1 after their call. */
    private static void ends(int outcome, int result, int... code) {
        GuestClassMachine x = new GuestClassMachine();
        x.type(-1);
        x.field(8);
        Guest.method(x, 1, LOAD, 0, PUSH, 0, CALL, 2, LOAD, 0, GSTORE, 1, RETURN);
        Guest.method(x, 2, LOAD, 0, PUSH, 0, CALL, 3, LOAD, 0, GSTORE, 1, RETURN);
        Guest.method(x, 3, code);
        Guest.link(x);
        Guest.run("three deep", x, Guest.call(0, 1, 0), outcome, result);
        Checks.due("global 1 after " + outcome + " " + result, x.held(1), outcome == DONE ? 0 : -1);
    }

    private static void orderOfTheTestsOfCall() {
        Checks.sentence("CALL tests null, then the method, then the number of active methods.");
        atSix(1, Guest.code(NULL, PUSH, 0, CALL, 2));
        atSix(1, Guest.code(NULL, PUSH, 0, CALL, 3));
        atSix(4, Guest.code(LOAD, 0, PUSH, 0, CALL, 3));
        atSix(5, Guest.code(LOAD, 0, PUSH, 0, CALL, 2));
    }

    private static void atSix(int due, int[] call) {
        GuestClassMachine x = Guest.single(2, Guest.join(Guest.code(LOAD, 1, JZERO, 14, LOAD, 0, LOAD, 1, PUSH, 1,
            SUB, CALL, 2, RETURN), call, Guest.code(RETURN)));
        Guest.link(x);
        Guest.run("six active", x, Guest.call(0, 2, 5), THROWN, due);
    }

    private static GuestClassMachine burner(int... tail) {
        GuestClassMachine x = Guest.single(2, Guest.join(BURN, tail));
        Guest.method(x, 3, PUSH, 7, RETURN);
        Guest.method(x, 1, LOAD, 0, LOAD, 1, CALL, 3, RETURN);
        Guest.link(x);
        return x;
    }

    /** With the ticks that are due the tail comes to its end, with one less it doesn't. */
    private static void ticks(String what, int due, int... tail) {
        GuestClassMachine x = burner(tail);
        Guest.run(what, x, Guest.call(0, 2, 0), DONE, 7);
        Guest.run(what + ", enough", x, Guest.call(0, 2, 100 - due), DONE, 7);
        Guest.run(what + ", one less", x, Guest.call(0, 2, 101 - due), STOPPED, 0);
        Guest.run(what + ", enough again", x, Guest.call(0, 2, 100 - due), DONE, 7);
    }

    private static void whatUsesNoTick() {
        Checks.sentence("JUMP and JZERO that go on to a byte at or before their own, use up one .. when they do it");
        ticks("nothing", 0, PUSH, 7, RETURN);
        ticks("JUMP to the next byte", 0, JUMP, 15, PUSH, 7, RETURN);
        ticks("JUMP forward", 0, JUMP, 18, PUSH, 8, RETURN, PUSH, 7, RETURN);
        ticks("JZERO to the next byte", 0, PUSH, 0, JZERO, 17, PUSH, 7, RETURN);
        ticks("JZERO forward", 0, PUSH, 0, JZERO, 20, PUSH, 8, RETURN, PUSH, 7, RETURN);
        ticks("JZERO forward that isn't done", 0, PUSH, 1, JZERO, 20, PUSH, 7, RETURN, PUSH, 8, RETURN);
        ticks("JZERO back that isn't done", 0, PUSH, 1, JZERO, 13, PUSH, 7, RETURN);
        ticks("JZERO back to 0 that isn't done", 0, PUSH, 255, JZERO, 0, PUSH, 7, RETURN);
        ticks("RETURN, NEW and IS", 0, NEW, 0, IS, 0, POP, PUSH, 7, RETURN);
    }

    private static void whatUsesTicks() {
        Checks.sentence("use up one of the invocation's 100 TICKS when they do it");
        ticks("JUMP back", 1, LOAD, 1, JZERO, 20, PUSH, 7, RETURN, PUSH, 1, STORE, 1, JUMP, 13);
        ticks("JZERO back", 1, LOAD, 1, PUSH, 1, STORE, 1, JZERO, 13, PUSH, 7, RETURN);
        // The nearest byte before it that ways can reach with as many entries.
        ticks("JZERO back by one instruction", 1, PUSH, 1, STORE, 2, LOAD, 1, JUMP, 23, LOAD, 2, JZERO, 21,
            PUSH, 7, RETURN);
        ticks("a CALL", 1, LOAD, 0, LOAD, 1, CALL, 3, RETURN);
        ticks("two CALLs", 2, LOAD, 0, LOAD, 1, CALL, 3, POP, LOAD, 0, LOAD, 1, CALL, 3, RETURN);
        ticks("a CALL in a CALL", 2, LOAD, 0, LOAD, 1, CALL, 1, RETURN);
    }

    private static void stopsAtItsOwnByte() {
        Checks.sentence("go on to a byte at or before their own");
        Guest.gives(2, 0, STOPPED, 0, JUMP, 0);
        Guest.gives(2, 0, STOPPED, 0, PUSH, 3, JUMP, 2);
        Guest.gives(2, 0, STOPPED, 0, NULL, POP, JUMP, 0);
        // At its own byte it uses ticks as anywhere before: none is left afterwards, even for one more.
        GuestClassMachine x = burner(JUMP, 13);
        Guest.run("own byte", x, Guest.call(0, 2, 0), STOPPED, 0);
        Guest.run("own byte", x, Guest.call(0, 2, 100), STOPPED, 0);
    }

    private static void testsOfCallComeBeforeItsTick() {
        Checks.sentence("(CALL after its tests); where none is left, the invocation ends with STOPPED");
        Guest.run("null", burner(NULL, LOAD, 1, CALL, 3, RETURN), Guest.call(0, 2, 100), THROWN, 1);
        Guest.run("no method", burner(LOAD, 0, LOAD, 1, CALL, 0, RETURN), Guest.call(0, 2, 100), THROWN, 4);
        Guest.run("passes", burner(LOAD, 0, LOAD, 1, CALL, 3, RETURN), Guest.call(0, 2, 100), STOPPED, 0);
        Guest.run("passes", burner(LOAD, 0, LOAD, 1, CALL, 3, RETURN), Guest.call(0, 2, 99), DONE, 7);
        // Six methods call each other; the sixth uses ticks, then calls the first.
        GuestClassMachine x = new GuestClassMachine();
        x.type(-1);
        int[] names = {0, 1, 2, 3, 8};
        for (int i = 0; i < 5; i++) {
            int next = i < 4 ? names[i + 1] : 9;
            int[] end = i == 3 ? Guest.code(POP, LOAD, 1, RETURN) : Guest.code(RETURN);
            Guest.method(x, names[i], Guest.join(Guest.code(LOAD, 0, LOAD, 1, CALL, next), end));
        }
        Guest.method(x, 9, Guest.join(BURN, Guest.code(LOAD, 0, LOAD, 1, CALL, 0, POP, NULL, RETURN)));
        Guest.link(x);
        Guest.run("six active, 1 tick left", x, Guest.call(0, 0, 94), THROWN, 5);
        Guest.run("six active, none left", x, Guest.call(0, 0, 95), THROWN, 5);
        Guest.run("six active, one too few", x, Guest.call(0, 0, 96), STOPPED, 0);
        Guest.run("five active, 1 tick left", x, Guest.call(0, 1, 95), THROWN, 5);
        Guest.run("five active, none left", x, Guest.call(0, 1, 96), STOPPED, 0);
    }

    private static void ticksOfOneInvocation() {
        Checks.sentence("use up one of the invocation's 100 TICKS");
        // The called method's jumps use the ticks of the same invocation, and each one has its own.
        GuestClassMachine x = Guest.single(1, LOAD, 0, LOAD, 1, CALL, 2, LOAD, 0, LOAD, 1, CALL, 2, ADD, RETURN);
        Guest.method(x, 2, Guest.join(BURN, Guest.code(PUSH, 1, RETURN)));
        Guest.link(x);
        for (int i = 0; i < 5; i++) {
            Guest.run("2 calls and 98 jumps", x, Guest.call(0, 1, 49), DONE, 2);
            Guest.run("2 calls and 100 jumps", x, Guest.call(0, 1, 50), STOPPED, 0);
            Guest.run("100 jumps", x, Guest.call(0, 2, 100), DONE, 1);
            Guest.run("101 jumps", x, Guest.call(0, 2, 101), STOPPED, 0);
        }
    }

    private static void whatWasDoneStays() {
        Checks.sentence("What was done before stays done.");
        stays(STOPPED, 0, JUMP, 14);
        stays(THROWN, 1, NULL, GET, 0, RETURN);
        stays(THROWN, 2, PUSH, 1, PUSH, 0, DIV, RETURN);
        stays(THROWN, 3, LOAD, 0, GET, 1, RETURN);
        stays(THROWN, 4, LOAD, 0, PUSH, 0, CALL, 0, RETURN);
        stays(THROWN, 5, GLOAD, 0, LOAD, 1, CALL, 2, RETURN);
    }

    /** What is put, stored and made before the end is seen after it. */
    private static void stays(int outcome, int result, int... tail) {
        GuestClassMachine x = new GuestClassMachine();
        x.type(-1);
        x.field(0);
        x.field(8);
        Guest.method(x, 2, Guest.join(Guest.code(LOAD, 0, LOAD, 1, PUT, 0, LOAD, 0, GSTORE, 0, NEW, 0, GSTORE, 1),
            tail));
        Guest.link(x);
        Guest.run("ends", x, Guest.call(0, 2, 33), outcome, result);
        Checks.due("held(0)", x.held(0), 0);
        Checks.due("held(1)", x.held(1), 0);
        Checks.due("peek(0, 0)", x.peek(0, 0), 33);
        Checks.due("alike", x.alike(), false);
        Checks.due("reachable", x.reachable(), 2);
        Guest.run("ends anew", x, Guest.call(0, 2, 34), outcome, result);
        Checks.due("peek(0, 0) anew", x.peek(0, 0), 34);
        Checks.due("reachable anew", x.reachable(), 2);
    }
}
