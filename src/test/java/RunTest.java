/** Promises 9 and 10, invoke and result, with all instructions, the thrown codes and the ticks. */
public final class RunTest implements Codes {
    public static void main(String[] args) {
        refusals();
        resultStays();
        pushes();
        arithmetic();
        localsAndStack();
        jumps();
        sameAndNull();
        fields();
        fieldFaults();
        newObjectsAreEmpty();
        typeTests();
        callsByName();
        callFaults();
        waitingMethodsKeepTheirEntries();
        argumentsOfInvoke();
        answersOfInvoke();
        depth();
        ticksOfJumps();
        ticksOfCalls();
        ticksAreTheInvocations();
        orderOfCallTests();
        whatWasDoneStays();
        Checks.finish();
    }

    private static void refusals() {
        GuestClassMachine x = Guest.single(2, LOAD, 1, RETURN);
        x.type(0);
        x.type(-1);
        Checks.due("not linked", x.invoke(0, 2, 1), REFUSED);
        Guest.link(x);
        int[] noTypes = {LEAST, -1, 3, 4, 5, 100, GREATEST};
        for (int type : noTypes) {
            Checks.due("type " + type, x.invoke(type, 2, 1), REFUSED);
        }
        int[] noNames = {LEAST, -14, -1, 16, 18, 32, GREATEST};
        for (int name : noNames) {
            Checks.due("name " + name, x.invoke(0, name, 1), REFUSED);
        }
        for (int name = 0; name < 16; name++) {
            int due = name == 2 ? DONE : REFUSED;
            Checks.due("name " + name, x.invoke(0, name, 1), due);
            Checks.due("below, name " + name, x.invoke(1, name, 1), due);
            Checks.due("other, name " + name, x.invoke(2, name, 1), REFUSED);
        }
    }

    private static void resultStays() {
        GuestClassMachine x = Guest.single(2, PUSH, 8, LOAD, 1, DIV, RETURN);
        Checks.due("not linked: invoke", x.invoke(0, 2, 1), REFUSED);
        Checks.due("not linked: result", x.result(), 0);
        Guest.link(x);
        Checks.due("none yet: result", x.result(), 0);
        Guest.run("8 / 2", x, Guest.call(0, 2, 2), DONE, 4);
        Guest.run("refused", x, Guest.call(0, 3, 2), REFUSED, 4);
        Guest.run("refused", x, Guest.call(9, 2, 2), REFUSED, 4);
        Guest.run("8 / 0", x, Guest.call(0, 2, 0), THROWN, 2);
        Guest.run("refused", x, Guest.call(0, 16, 2), REFUSED, 2);
        Guest.run("8 / -3", x, Guest.call(0, 2, -3), DONE, -2);
        GuestClassMachine y = Guest.single(2, LOAD, 1, JZERO, 0, LOAD, 1, RETURN);
        Guest.link(y);
        Guest.run("7", y, Guest.call(0, 2, 7), DONE, 7);
        Guest.run("stopped", y, Guest.call(0, 2, 0), STOPPED, 0);
    }

    private static void pushes() {
        Guest.gives(2, 0, DONE, 0, PUSH, 0, RETURN);
        Guest.gives(2, 0, DONE, 127, PUSH, 127, RETURN);
        Guest.gives(2, 0, DONE, -128, PUSH, 128, RETURN);
        Guest.gives(2, 0, DONE, -56, PUSH, 200, RETURN);
        Guest.gives(2, 0, DONE, -1, PUSH, 255, RETURN);
    }

    private static void arithmetic() {
        Guest.gives(2, 10, DONE, 13, LOAD, 1, PUSH, 3, ADD, RETURN);
        Guest.gives(2, 10, DONE, 7, LOAD, 1, PUSH, 3, SUB, RETURN);
        Guest.gives(2, 10, DONE, 30, LOAD, 1, PUSH, 3, MUL, RETURN);
        Guest.gives(2, 10, DONE, 3, LOAD, 1, PUSH, 3, DIV, RETURN);
        Guest.gives(2, -10, DONE, -3, LOAD, 1, PUSH, 3, DIV, RETURN);
        Guest.gives(2, 10, DONE, -3, LOAD, 1, PUSH, 253, DIV, RETURN);
        Guest.gives(2, -10, DONE, 3, LOAD, 1, PUSH, 253, DIV, RETURN);
        Guest.gives(2, GREATEST, DONE, LEAST, LOAD, 1, PUSH, 1, ADD, RETURN);
        Guest.gives(2, LEAST, DONE, GREATEST, LOAD, 1, PUSH, 1, SUB, RETURN);
        Guest.gives(2, 65536, DONE, 0, LOAD, 1, LOAD, 1, MUL, RETURN);
        Guest.gives(2, GREATEST, DONE, 1, LOAD, 1, LOAD, 1, MUL, RETURN);
        Guest.gives(2, LEAST, DONE, LEAST, LOAD, 1, PUSH, 255, DIV, RETURN);
        Guest.gives(2, LEAST, DONE, LEAST, LOAD, 1, PUSH, 255, MUL, RETURN);
        Guest.gives(2, 5, THROWN, 2, LOAD, 1, PUSH, 0, DIV, RETURN);
        Guest.gives(2, 0, THROWN, 2, LOAD, 1, PUSH, 0, DIV, RETURN);
        Guest.gives(2, 0, DONE, 0, LOAD, 1, PUSH, 5, DIV, RETURN);
        Guest.gives(2, 2, DONE, 1, LOAD, 1, PUSH, 3, LESS, RETURN);
        Guest.gives(2, 3, DONE, 0, LOAD, 1, PUSH, 3, LESS, RETURN);
        Guest.gives(2, 4, DONE, 0, LOAD, 1, PUSH, 3, LESS, RETURN);
        Guest.gives(2, LEAST, DONE, 1, LOAD, 1, PUSH, 1, LESS, RETURN);
        Guest.gives(2, GREATEST, DONE, 0, LOAD, 1, PUSH, 255, LESS, RETURN);
    }

    private static void localsAndStack() {
        Guest.gives(2, 9, DONE, 9, PUSH, 4, STORE, 2, LOAD, 1, STORE, 3, LOAD, 3, RETURN);
        Guest.gives(2, 9, DONE, 4, PUSH, 4, STORE, 2, LOAD, 1, STORE, 3, LOAD, 2, RETURN);
        Guest.gives(2, 9, DONE, 4, PUSH, 4, STORE, 1, LOAD, 1, RETURN);
        Guest.gives(2, 9, DONE, 4, PUSH, 4, STORE, 0, LOAD, 0, RETURN);
        Guest.gives(2, 9, DONE, 4, PUSH, 4, LOAD, 1, POP, RETURN);
        Guest.gives(2, 9, DONE, 9, PUSH, 4, LOAD, 1, RETURN);
        Guest.gives(2, 1, DONE, 15, LOAD, 1, PUSH, 2, PUSH, 3, PUSH, 4, PUSH, 5, ADD, ADD, ADD, ADD, RETURN);
        // The local has another kind than before.
        Guest.gives(2, 1, DONE, 0, LOAD, 0, STORE, 1, LOAD, 1, NULL, SAME, RETURN);
    }

    private static void jumps() {
        int[] choose = {LOAD, 1, JZERO, 7, PUSH, 1, RETURN, PUSH, 2, RETURN};
        Guest.gives(2, 0, DONE, 2, choose);
        Guest.gives(2, 1, DONE, 1, choose);
        Guest.gives(2, LEAST, DONE, 1, choose);
        Guest.gives(2, 5, DONE, 7, JUMP, 5, PUSH, 9, RETURN, PUSH, 7, RETURN);
        // The sum of 1 to the argument.
        int[] sum = {PUSH, 0, STORE, 2, LOAD, 1, JZERO, 24, LOAD, 2, LOAD, 1, ADD, STORE, 2,
            LOAD, 1, PUSH, 1, SUB, STORE, 1, JUMP, 4, LOAD, 2, RETURN};
        Guest.gives(2, 0, DONE, 0, sum);
        Guest.gives(2, 10, DONE, 55, sum);
        Guest.gives(2, 100, DONE, 5050, sum);
        Guest.gives(2, 101, STOPPED, 0, sum);
    }

    private static void sameAndNull() {
        Guest.gives(2, 0, DONE, 1, NULL, NULL, SAME, RETURN);
        Guest.gives(2, 0, DONE, 0, NULL, LOAD, 0, SAME, RETURN);
        Guest.gives(2, 0, DONE, 1, LOAD, 0, LOAD, 0, SAME, RETURN);
        Guest.gives(2, 0, DONE, 0, LOAD, 0, NEW, 0, SAME, RETURN);
        Guest.gives(2, 0, DONE, 0, NEW, 0, NEW, 0, SAME, RETURN);
        Guest.gives(2, 0, DONE, 1, LOAD, 0, GSTORE, 1, GLOAD, 1, LOAD, 0, SAME, RETURN);
        Guest.gives(2, 0, DONE, 1, LOAD, 0, GSTORE, 1, GLOAD, 0, NULL, SAME, RETURN);
        Guest.gives(6, 5, DONE, 1, LOAD, 1, NULL, SAME, RETURN);
    }

    private static void fields() {
        GuestClassMachine x = new GuestClassMachine();
        x.type(-1);
        x.field(0);
        x.field(15);
        Guest.method(x, 2, LOAD, 0, LOAD, 1, PUT, 0, LOAD, 0, LOAD, 0, PUT, 15,
            LOAD, 0, GET, 15, GET, 0, RETURN);
        Guest.method(x, 3, LOAD, 0, GET, 0, RETURN);
        Guest.method(x, 8, LOAD, 0, GET, 15, RETURN);
        x.type(0);
        x.field(7);
        Guest.method(x, 2, LOAD, 0, LOAD, 1, PUT, 7, LOAD, 0, PUSH, 3, PUT, 0,
            LOAD, 0, GET, 7, LOAD, 0, GET, 0, SUB, RETURN);
        Guest.link(x);
        Guest.run("own", x, Guest.call(0, 2, LEAST), DONE, LEAST);
        Guest.run("fresh INT", x, Guest.call(0, 3, 1), DONE, 0);
        Guest.run("fresh REF", x, Guest.call(0, 8, 1), DONE, -1);
        Guest.run("with those above", x, Guest.call(1, 2, 10), DONE, 7);
        Guest.run("fresh INT below", x, Guest.call(1, 3, 1), DONE, 0);
    }

    private static void fieldFaults() {
        Guest.gives(2, 0, THROWN, 1, NULL, GET, 0, RETURN);
        Guest.gives(8, 0, THROWN, 1, NULL, GET, 8, RETURN);
        Guest.gives(2, 0, THROWN, 1, NULL, PUSH, 1, PUT, 0, PUSH, 0, RETURN);
        Guest.gives(2, 0, THROWN, 1, NULL, NULL, PUT, 8, PUSH, 0, RETURN);
        Guest.gives(2, 0, THROWN, 3, LOAD, 0, GET, 0, RETURN);
        Guest.gives(8, 0, THROWN, 3, LOAD, 0, GET, 8, RETURN);
        Guest.gives(2, 0, THROWN, 3, LOAD, 0, PUSH, 1, PUT, 0, PUSH, 0, RETURN);
        Guest.gives(2, 0, THROWN, 3, LOAD, 0, NULL, PUT, 8, PUSH, 0, RETURN);
        // A field of the type below is not the one's above, nor a method of that name a field.
        GuestClassMachine x = new GuestClassMachine();
        x.type(-1);
        Guest.method(x, 2, LOAD, 0, GET, 2, RETURN);
        x.type(0);
        x.field(2);
        Guest.link(x);
        Guest.run("above", x, Guest.call(0, 2, 0), THROWN, 3);
        Guest.run("below", x, Guest.call(1, 2, 0), DONE, 0);
    }

    private static void newObjectsAreEmpty() {
        // Fills many objects and lets them go; each new one must be empty again.
        GuestClassMachine x = new GuestClassMachine();
        x.type(-1);
        x.field(0);
        x.field(8);
        Guest.method(x, 2, LOAD, 0, GET, 0, LOAD, 0, GET, 8, NULL, SAME, ADD,
            LOAD, 0, LOAD, 1, PUT, 0, LOAD, 0, LOAD, 0, PUT, 8, RETURN);
        Guest.link(x);
        for (int i = 0; i < 40; i++) {
            Guest.run("empty", x, Guest.call(0, 2, 77), DONE, 1);
        }
    }

    private static void typeTests() {
        GuestClassMachine x = new GuestClassMachine();
        x.type(-1);
        for (int b = 0; b < 4; b++) {
            Guest.method(x, b, LOAD, 0, IS, b, RETURN);
        }
        x.type(0);
        x.type(1);
        x.type(0);
        x.type(-1);
        Guest.method(x, 0, NULL, IS, 4, RETURN);
        Guest.method(x, 1, LOAD, 0, IS, 4, RETURN);
        Guest.method(x, 2, LOAD, 0, IS, 0, RETURN);
        Guest.link(x);
        int[][] is = {{1, 0, 0, 0}, {1, 1, 0, 0}, {1, 1, 1, 0}, {1, 0, 0, 1}};
        for (int type = 0; type < 4; type++) {
            for (int b = 0; b < 4; b++) {
                Guest.run("type " + type + " IS " + b, x, Guest.call(type, b, 0), DONE, is[type][b]);
            }
        }
        Guest.run("null IS 4", x, Guest.call(4, 0, 0), DONE, 0);
        Guest.run("type 4 IS 4", x, Guest.call(4, 1, 0), DONE, 1);
        Guest.run("type 4 IS 0", x, Guest.call(4, 2, 0), DONE, 0);
    }

    private static void callsByName() {
        GuestClassMachine x = new GuestClassMachine();
        x.type(-1);
        Guest.method(x, 0, LOAD, 1, PUSH, 1, ADD, RETURN);
        Guest.method(x, 1, LOAD, 0, LOAD, 1, CALL, 0, RETURN);
        x.type(0);
        Guest.method(x, 0, LOAD, 1, PUSH, 2, ADD, RETURN);
        x.type(1);
        x.type(0);
        x.type(2);
        Guest.method(x, 0, LOAD, 1, PUSH, 3, MUL, RETURN);
        Guest.link(x);
        int[] due = {11, 12, 12, 11, 30};
        for (int type = 0; type < 5; type++) {
            Guest.run("own or above, type " + type, x, Guest.call(type, 0, 10), DONE, due[type]);
            Guest.run("by the receiver, type " + type, x, Guest.call(type, 1, 10), DONE, due[type]);
        }
    }

    private static void callFaults() {
        Guest.gives(2, 0, THROWN, 1, NULL, PUSH, 0, CALL, 2, RETURN);
        Guest.gives(2, 0, THROWN, 1, NULL, PUSH, 0, CALL, 3, RETURN);
        Guest.gives(2, 0, THROWN, 4, LOAD, 0, PUSH, 0, CALL, 3, RETURN);
        Guest.gives(2, 0, THROWN, 4, LOAD, 0, NULL, CALL, 4, RETURN);
        // A method of the type below is not the one's above.
        GuestClassMachine x = Guest.single(2, LOAD, 0, LOAD, 1, CALL, 3, RETURN);
        x.type(0);
        Guest.method(x, 3, PUSH, 6, RETURN);
        Guest.link(x);
        Guest.run("above", x, Guest.call(0, 2, 0), THROWN, 4);
        Guest.run("below", x, Guest.call(1, 2, 0), DONE, 6);
        // A fault in a called method ends the caller too.
        GuestClassMachine y = Guest.single(2, LOAD, 0, LOAD, 1, CALL, 3, POP, PUSH, 1, RETURN);
        Guest.method(y, 3, PUSH, 6, LOAD, 1, DIV, RETURN);
        Guest.link(y);
        Guest.run("fault below", y, Guest.call(0, 2, 0), THROWN, 2);
        Guest.run("no fault below", y, Guest.call(0, 2, 6), DONE, 1);
    }

    private static void waitingMethodsKeepTheirEntries() {
        // 100 - (3 * 7) with the call in the midst of the entries, and locals of its own.
        GuestClassMachine x = Guest.single(2, PUSH, 50, STORE, 2, PUSH, 100, PUSH, 3,
            LOAD, 0, LOAD, 1, CALL, 3, MUL, SUB, LOAD, 2, ADD, RETURN);
        Guest.method(x, 3, PUSH, 1, STORE, 2, PUSH, 9, PUSH, 9, PUSH, 9, LOAD, 1, LOAD, 2, ADD, RETURN);
        Guest.link(x);
        Guest.run("entries", x, Guest.call(0, 2, 6), DONE, 129);
    }

    private static void argumentsOfInvoke() {
        for (int name = 0; name < 8; name++) {
            if ((name & 4) == 0) {
                Guest.gives(name, LEAST, DONE, LEAST, LOAD, 1, RETURN);
            } else {
                Guest.gives(name, 1, DONE, 1, LOAD, 1, NULL, SAME, RETURN);
                Guest.gives(name, 1, THROWN, 1, LOAD, 1, GET, 0, RETURN);
            }
            Guest.gives(name, 1, DONE, 0, LOAD, 0, NULL, SAME, RETURN);
        }
    }

    private static void answersOfInvoke() {
        for (int name = 8; name < 16; name++) {
            Guest.gives(name, 5, DONE, -1, NULL, RETURN);
            Guest.gives(name, 5, DONE, 0, LOAD, 0, RETURN);
        }
        GuestClassMachine x = Guest.single(8, NEW, 3, RETURN);
        Guest.method(x, 9, LOAD, 0, RETURN);
        x.type(0);
        x.type(1);
        x.type(2);
        Guest.link(x);
        Guest.run("NEW 3", x, Guest.call(0, 8, 0), DONE, 3);
        Guest.run("receiver", x, Guest.call(2, 9, 0), DONE, 2);
        Checks.due("the answer isn't held", x.reachable(), 0);
    }

    private static void depth() {
        // Calls itself until the argument is 0.
        GuestClassMachine x = Guest.single(2, LOAD, 1, JZERO, 14, LOAD, 0, LOAD, 1, PUSH, 1, SUB,
            CALL, 2, RETURN, PUSH, 5, RETURN);
        Guest.link(x);
        for (int i = 0; i < 3; i++) {
            Guest.run("six active", x, Guest.call(0, 2, 5), DONE, 5);
            Guest.run("seven active", x, Guest.call(0, 2, 6), THROWN, 5);
        }
    }

    private static void ticksOfJumps() {
        // JZERO back to byte 4 for as long as the argument is not reached.
        int[] back = {PUSH, 0, STORE, 2, LOAD, 2, PUSH, 1, ADD, STORE, 2, LOAD, 2, LOAD, 1, LESS,
            PUSH, 1, SUB, JZERO, 4, LOAD, 2, RETURN};
        Guest.gives(2, 1, DONE, 1, back);
        Guest.gives(2, 100, DONE, 100, back);
        Guest.gives(2, 101, DONE, 101, back);
        Guest.gives(2, 102, STOPPED, 0, back);
        // JUMP to its own byte.
        Guest.gives(2, 0, STOPPED, 0, JUMP, 0);
        Guest.gives(2, 0, STOPPED, 0, PUSH, 3, JUMP, 2);
        // A JZERO back that is not taken uses none: 100 rounds with one JUMP back and one JZERO each.
        int[] notTaken = {LOAD, 1, JZERO, 17, PUSH, 1, JZERO, 0, LOAD, 1, PUSH, 1, SUB, STORE, 1, JUMP, 0,
            PUSH, 7, RETURN};
        Guest.gives(2, 100, DONE, 7, notTaken);
        Guest.gives(2, 101, STOPPED, 0, notTaken);
        // Jumps forward use none: 100 rounds with one JUMP forward each.
        int[] forward = {LOAD, 1, JZERO, 17, JUMP, 8, RETURN, POP, LOAD, 1, PUSH, 1, SUB, STORE, 1, JUMP, 0,
            PUSH, 7, RETURN};
        Guest.gives(2, 100, DONE, 7, forward);
        Guest.gives(2, 101, STOPPED, 0, forward);
    }

    private static void ticksOfCalls() {
        // Each round has a JUMP back and a CALL: 50 rounds use up all.
        GuestClassMachine x = Guest.single(2, LOAD, 1, JZERO, 19, LOAD, 0, LOAD, 1, CALL, 3,
            PUSH, 1, SUB, STORE, 1, JUMP, 0, RETURN, POP, LOAD, 1, RETURN);
        Guest.method(x, 3, LOAD, 1, RETURN);
        Guest.link(x);
        Guest.run("100 ticks", x, Guest.call(0, 2, 50), DONE, 0);
        Guest.run("101 ticks", x, Guest.call(0, 2, 51), STOPPED, 0);
        // As many jumps as the argument tells, then two calls.
        GuestClassMachine y = Guest.single(2, LOAD, 1, JZERO, 13, LOAD, 1, PUSH, 1, SUB, STORE, 1, JUMP, 0,
            LOAD, 0, LOAD, 1, CALL, 3, LOAD, 0, LOAD, 1, CALL, 3, ADD, RETURN);
        Guest.method(y, 3, PUSH, 4, RETURN);
        Guest.link(y);
        Guest.run("98 and 2", y, Guest.call(0, 2, 98), DONE, 8);
        Guest.run("99 and 2", y, Guest.call(0, 2, 99), STOPPED, 0);
        Guest.run("100 and 2", y, Guest.call(0, 2, 100), STOPPED, 0);
    }

    private static void ticksAreTheInvocations() {
        // A called method uses the same ticks, and the next invocation has its own.
        GuestClassMachine x = Guest.single(2, LOAD, 0, LOAD, 1, CALL, 3, LOAD, 0, LOAD, 1, CALL, 3, ADD, RETURN);
        Guest.method(x, 3, LOAD, 1, JZERO, 13, LOAD, 1, PUSH, 1, SUB, STORE, 1, JUMP, 0, PUSH, 1, RETURN);
        Guest.link(x);
        for (int i = 0; i < 3; i++) {
            Guest.run("2 calls and 98 jumps", x, Guest.call(0, 2, 49), DONE, 2);
            Guest.run("2 calls and 100 jumps", x, Guest.call(0, 2, 50), STOPPED, 0);
        }
    }

    private static void orderOfCallTests() {
        // At the sixth active method: null, then the method, then the number.
        sixth(1, NULL, PUSH, 0, CALL, 2);
        sixth(1, NULL, PUSH, 0, CALL, 3);
        sixth(4, LOAD, 0, PUSH, 0, CALL, 3);
        sixth(5, LOAD, 0, PUSH, 0, CALL, 2);
        // Without a tick left: the tests come first.
        noTick(1, NULL);
        noTick(4, LOAD, 0);
        GuestClassMachine x = Guest.single(2, LOAD, 1, JZERO, 13, LOAD, 1, PUSH, 1, SUB, STORE, 1, JUMP, 0,
            LOAD, 0, LOAD, 1, CALL, 3, RETURN);
        Guest.method(x, 3, PUSH, 4, RETURN);
        Guest.link(x);
        Guest.run("a tick left", x, Guest.call(0, 2, 99), DONE, 4);
        Guest.run("no tick left", x, Guest.call(0, 2, 100), STOPPED, 0);
    }

    private static void sixth(int code, int... last) {
        GuestClassMachine x = Guest.single(2, LOAD, 1, JZERO, 14, LOAD, 0, LOAD, 1, PUSH, 1, SUB,
            CALL, 2, RETURN);
        for (int b : last) {
            x.code(b);
        }
        x.code(RETURN);
        Guest.link(x);
        Guest.run("sixth", x, Guest.call(0, 2, 5), THROWN, code);
    }

    /** Uses all ticks, then calls a method that is not there on null or on the receiver. */
    private static void noTick(int code, int... receiver) {
        GuestClassMachine x = Guest.single(2, LOAD, 1, JZERO, 13, LOAD, 1, PUSH, 1, SUB, STORE, 1, JUMP, 0);
        for (int b : receiver) {
            x.code(b);
        }
        x.code(LOAD);
        x.code(1);
        x.code(CALL);
        x.code(3);
        x.code(RETURN);
        Guest.link(x);
        Guest.run("no tick", x, Guest.call(0, 2, 100), THROWN, code);
    }

    private static void whatWasDoneStays() {
        GuestClassMachine x = new GuestClassMachine();
        x.type(-1);
        x.field(0);
        Guest.method(x, 2, LOAD, 0, GSTORE, 0, LOAD, 0, LOAD, 1, PUT, 0, PUSH, 1, PUSH, 0, DIV, RETURN);
        Guest.method(x, 3, LOAD, 0, GSTORE, 1, LOAD, 0, LOAD, 1, PUT, 0, JUMP, 10);
        Guest.link(x);
        Guest.run("thrown", x, Guest.call(0, 2, 41), THROWN, 2);
        Checks.due("thrown: held", x.held(0), 0);
        Checks.due("thrown: peek", x.peek(0, 0), 41);
        Guest.run("stopped", x, Guest.call(0, 3, 42), STOPPED, 0);
        Checks.due("stopped: held", x.held(1), 0);
        Checks.due("stopped: peek", x.peek(1, 0), 42);
        Checks.due("stopped: alike", x.alike(), false);
        Checks.due("stopped: reachable", x.reachable(), 2);
    }
}
