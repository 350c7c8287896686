/**
 * Promises 9 and 10, clause by clause: the last case that is still taken, the first that is refused,
 * and that a refused one changes nothing.
 */
public final class InvokingTest implements Codes {
    private static final int[] ANSWER = {LOAD, 1, RETURN};

    public static void main(String[] args) {
        invokeRefused();
        invokeRefusedChangesNothing();
        invokeMakesAnObject();
        invokeArgument();
        invokeIsActiveWithoutTick();
        resultOfTheLatest();
        Checks.finish();
    }

    // ---- promises 9 and 10

    private static void invokeRefused() {
        Checks.sentence("REFUSED, changing nothing, if not linked, or type or name is no type's number "
            + "or outside 0..15, or the type has no method of that name");
        for (int types = 1; types <= 5; types++) {
            GuestClassMachine x = Guest.single(2, ANSWER);
            for (int type = 1; type < types; type++) {
                x.type(0);
            }
            Checks.due("not linked", x.invoke(0, 2, 7), REFUSED);
            Guest.link(x);
            for (int type = -3; type < 9; type++) {
                boolean fits = type >= 0 && type < types;
                Checks.due("type " + type + " of " + types, x.invoke(type, 2, 7), fits ? DONE : REFUSED);
            }
            Checks.due("far", x.invoke(LEAST, 2, 7), REFUSED);
            Checks.due("far", x.invoke(GREATEST, 2, 7), REFUSED);
        }
        for (int name = 0; name < 16; name++) {
            GuestClassMachine x = Guest.single(name, name < 8 ? PUSH : GLOAD, 0, RETURN);
            x.type(-1);
            x.type(0);
            Guest.link(x);
            for (int other = -17; other < 34; other++) {
                Checks.due("name " + other, x.invoke(0, other, 0), other == name ? DONE : REFUSED);
                Checks.due("below, name " + other, x.invoke(2, other, 0), other == name ? DONE : REFUSED);
                Checks.due("beside, name " + other, x.invoke(1, other, 0), REFUSED);
            }
        }
    }

    private static void invokeRefusedChangesNothing() {
        Checks.sentence("REFUSED, changing nothing");
        int[][] calls = {{-1, 2, 5}, {2, 2, 5}, {5, 2, 5}, {LEAST, 2, 5}, {GREATEST, 2, 5}, {0, -1, 5}, {0, 16, 5},
            {0, 18, 5}, {0, LEAST, 5}, {0, GREATEST, 5}, {0, 3, 5}, {0, 0, 5}, {1, 15, 5}, {9, 99, 5}};
        for (int[] call : calls) {
            Twins.unchanged("invoke", Machines::used,
                x -> Checks.due("invoke", x.invoke(call[0], call[1], call[2]), REFUSED));
        }
        Twins.unchanged("not linked", Machines::open, x -> Checks.due("invoke", x.invoke(0, 2, 5), REFUSED));
        Twins.unchanged("not linked", Machines::faulty, x -> Checks.due("invoke", x.invoke(0, 2, 5), REFUSED));
        Twins.unchanged("no type", Machines::nothing, x -> Checks.due("invoke", x.invoke(0, 2, 5), REFUSED));
    }

    private static void invokeMakesAnObject() {
        Checks.sentence("Makes a new object of a type as by NEW (only the globals are held then) and calls its method");
        GuestClassMachine x = Guest.single(8, LOAD, 0, RETURN);
        Guest.method(x, 2, GLOAD, 0, LOAD, 0, SAME, LOAD, 0, GSTORE, 0, RETURN);
        x.type(0);
        x.type(1);
        Guest.link(x);
        for (int type = 0; type < 3; type++) {
            Guest.run("of type " + type, x, Guest.call(type, 8, 0), DONE, type);
            Guest.run("a new one", x, Guest.call(type, 2, 0), DONE, 0);
            Guest.run("another one", x, Guest.call(type, 2, 0), DONE, 0);
            Checks.due("held", x.held(0), type);
        }
        // With nine objects held there is room for it, with ten not: the method isn't called then.
        int[] show = {PUSH, 0, GLOAD, 0, GSTORE, 1, RETURN};
        GuestClassMachine nine = Chain.chain(9, show, Chain.MAKE, Chain.MAKE);
        Guest.run("nine", nine, Guest.call(0, 0, 0), DONE, 0);
        Checks.due("nine: the method was called", nine.held(1), 0);
        GuestClassMachine ten = Chain.chain(10, show, Chain.MAKE, Chain.MAKE);
        Guest.run("ten", ten, Guest.call(0, 0, 0), THROWN, 6);
        Checks.due("ten: the method wasn't called", ten.held(1), -1);
        Checks.due("ten: reachable", ten.reachable(), 10);
        Checks.due("ten: refused all the same", ten.invoke(0, 3, 0), REFUSED);
        Checks.due("ten: the code stays", ten.result(), 6);
        ten.follow(0, 8);
        Guest.run("nine again", ten, Guest.call(0, 0, 0), DONE, 0);
    }

    private static void invokeArgument() {
        Checks.sentence("the argument being arg, or null where it is a REF");
        int[] values = {LEAST, -1, 0, 1, 2, 10, GREATEST};
        for (int name = 0; name < 16; name++) {
            for (int value : values) {
                boolean isRef = (name & 4) != 0;
                if (name < 8) {
                    Guest.gives(name, value, DONE, isRef ? 1 : value,
                        isRef ? Guest.code(LOAD, 1, NULL, SAME, RETURN) : ANSWER);
                } else if (isRef) {
                    Guest.gives(name, value, DONE, -1, ANSWER);
                    Guest.gives(name, value, THROWN, 1, LOAD, 1, GET, 8, RETURN);
                } else {
                    // Null where the argument is 0, else the receiver.
                    Guest.gives(name, value, DONE, value == 0 ? -1 : 0,
                        LOAD, 1, JZERO, 7, LOAD, 0, RETURN, NULL, RETURN);
                }
            }
        }
    }

    private static void invokeIsActiveWithoutTick() {
        Checks.sentence("This call is an active method but uses no tick.");
        // Calls as often as the argument tells, one in the other: six active with five calls.
        GuestClassMachine x = Guest.single(2, LOAD, 1, JZERO, 14, LOAD, 0, LOAD, 1, PUSH, 1, SUB, CALL, 2, RETURN,
            PUSH, 5, RETURN);
        // Jumps back as often as the argument tells.
        Guest.method(x, 3, LOAD, 1, JZERO, 13, LOAD, 1, PUSH, 1, SUB, STORE, 1, JUMP, 0, PUSH, 6, RETURN);
        Guest.link(x);
        Guest.run("five calls", x, Guest.call(0, 2, 5), DONE, 5);
        Guest.run("six calls", x, Guest.call(0, 2, 6), THROWN, 5);
        Guest.run("100 jumps", x, Guest.call(0, 3, 100), DONE, 6);
        Guest.run("101 jumps", x, Guest.call(0, 3, 101), STOPPED, 0);
    }

    private static void resultOfTheLatest() {
        Checks.sentence("Of the latest invoke that was not REFUSED .. 0 if there was none.");
        GuestClassMachine x = Guest.single(2, PUSH, 100, LOAD, 1, DIV, RETURN);
        Guest.method(x, 3, LOAD, 1, JZERO, 0, LOAD, 1, RETURN);
        Guest.method(x, 8, LOAD, 1, JZERO, 7, NEW, 1, RETURN, NULL, RETURN);
        x.type(-1);
        Checks.due("not linked", x.result(), 0);
        x.invoke(0, 2, 1);
        Checks.due("refused", x.result(), 0);
        Guest.link(x);
        Checks.due("linked", x.result(), 0);
        int[][] runs = {{2, 1, DONE, 100}, {2, 0, THROWN, 2}, {3, 9, DONE, 9}, {3, 0, STOPPED, 0}, {8, 1, DONE, 1},
            {8, 0, DONE, -1}, {2, -1, DONE, -100}, {3, LEAST, DONE, LEAST}, {3, GREATEST, DONE, GREATEST}};
        for (int[] run : runs) {
            Guest.run("name " + run[0], x, Guest.call(0, run[0], run[1]), run[2], run[3]);
            Guest.run("refused", x, Guest.call(1, run[0], run[1]), REFUSED, run[3]);
            Guest.run("refused", x, Guest.call(2, run[0], run[1]), REFUSED, run[3]);
            Guest.run("refused", x, Guest.call(0, -1, run[1]), REFUSED, run[3]);
            x.link();
            x.clear(0);
            Checks.due("stays", x.result(), run[3]);
        }
        x.reset();
        Checks.due("reset", x.result(), 0);
    }
}
