/**
 * Promises 6 to 8, clause by clause: what link answers, what it leaves as it was, the place, and reset.
 */
public final class LinkingTest implements Codes {
    private static final int[] ANSWER = {LOAD, 1, RETURN};

    public static void main(String[] args) {
        linkWhenLinked();
        linkWithoutType();
        linkInTheOrderOfNumbers();
        linkThatFails();
        places();
        reset();
        resetKeepsThePlace();
        nothingIsLeftOfEarlierChecks();
        Checks.finish();
    }

    // ---- promises 6 and 7

    private static void linkWhenLinked() {
        Checks.sentence("link: If linked, OK and nothing changes.");
        Twins.unchanged("linked again", Machines::used, x -> Guest.links("linked again", x, OK, -1));
        GuestClassMachine x = Guest.single(2, ANSWER);
        for (int i = 0; i < 4; i++) {
            Guest.links("link " + i, x, OK, -1);
        }
    }

    private static void linkWithoutType() {
        Checks.sentence("EMPTY if there is no type.");
        GuestClassMachine x = new GuestClassMachine();
        Guest.links("new", x, EMPTY, -1);
        Guest.links("new, again", x, EMPTY, -1);
        // Nothing is linked then.
        Checks.due("type", x.type(-1), 0);
        Guest.links("a type without members", x, OK, -1);
        Checks.due("invoke", x.invoke(0, 0, 0), REFUSED);
        x.reset();
        Guest.links("reset", x, EMPTY, -1);
        Twins.unchanged("EMPTY", Machines::nothing, y -> Checks.due("link", y.link(), EMPTY));
    }

    private static void linkInTheOrderOfNumbers() {
        Checks.sentence("the methods are checked in the order of their numbers; the first refused one decides");
        int[][] codes = {{LOAD, 1, RETURN}, {POP, PUSH, 21}, {LOAD, 1, RETURN, 21}};
        int[] answers = {OK, FLOW, FORM};
        int[] faults = {-1, 0, 3};
        for (int first = 0; first < 3; first++) {
            for (int second = 0; second < 3; second++) {
                for (int third = 0; third < 3; third++) {
                    int[] kinds = {first, second, third};
                    GuestClassMachine x = new GuestClassMachine();
                    int due = OK;
                    int place = -1;
                    for (int m = 2; m >= 0; m--) {
                        due = kinds[m] == 0 ? due : answers[kinds[m]];
                        place = kinds[m] == 0 ? place : m * 32 + faults[kinds[m]];
                    }
                    for (int m = 0; m < 3; m++) {
                        x.type(m == 2 ? 0 : -1);
                        Guest.method(x, 3 - m, codes[kinds[m]]);
                    }
                    Guest.links(first + " " + second + " " + third, x, due, place);
                }
            }
        }
    }

    private static void linkThatFails() {
        Checks.sentence("FORM or FLOW, nothing is linked then. If all pass: OK, and everything is linked.");
        int[][] codes = {{PUSH}, {PUSH, 1}};
        int[] answers = {FORM, FLOW};
        for (int i = 0; i < 2; i++) {
            GuestClassMachine x = Guest.single(3, ANSWER);
            Guest.method(x, 2, codes[i]);
            Guest.links("fails", x, answers[i], 32);
            Checks.due("the passing one isn't linked", x.invoke(0, 3, 1), REFUSED);
            Checks.due("the failing one isn't linked", x.invoke(0, 2, 1), REFUSED);
            Checks.due("field", x.field(3), true);
            Guest.write(x, 1);
            if (i == 1) {
                Checks.due("one byte too many", x.link(), FORM);
                Guest.write(x, 1);
            }
            Guest.write(x, RETURN);
            Checks.due("method", x.method(0), true);
            Guest.write(x, ANSWER);
            Checks.due("type", x.type(0), 1);
            Guest.links("passes", x, OK, -1);
            Guest.run("linked", x, Guest.call(1, 2, 5), DONE, i == 0 ? 1 : 5);
            Guest.run("linked", x, Guest.call(1, 0, 5), DONE, 5);
            Guest.run("linked", x, Guest.call(0, 3, 6), DONE, 6);
            Checks.due("field when linked", x.field(4), false);
        }
    }

    private static void places() {
        Checks.sentence("Of the latest link(): .. else -1.");
        GuestClassMachine x = new GuestClassMachine();
        Checks.due("no link yet", x.place(), -1);
        x.type(-1);
        x.method(2);
        Checks.due("still no link", x.place(), -1);
        Guest.links("FORM", x, FORM, 0);
        Guest.write(x, PUSH, 1, PUSH);
        Checks.due("stays with more code", x.place(), 0);
        Guest.links("FORM", x, FORM, 2);
        Guest.write(x, 1);
        Guest.links("FLOW", x, FLOW, 0);
        Guest.write(x, RETURN);
        x.method(3);
        Guest.write(x, ADD);
        Guest.links("FLOW", x, FLOW, 32);
        x.field(20);
        x.method(20);
        x.code(-1);
        x.type(9);
        x.invoke(0, 2, 0);
        Checks.due("stays after refused calls", x.place(), 32);
        x.reset();
        Checks.due("stays after reset", x.place(), 32);
        Guest.links("EMPTY", x, EMPTY, -1);
        x.type(-1);
        x.method(0);
        Guest.links("FORM", x, FORM, 0);
        Guest.write(x, ANSWER);
        Guest.links("OK", x, OK, -1);
        Guest.run("OK", x, Guest.call(0, 0, 4), DONE, 4);
        Checks.due("stays after invoke", x.place(), -1);
    }

    // ---- promise 8

    private static void reset() {
        Checks.sentence("Gives up all types, methods and the link; globals become null, the result 0.");
        GuestClassMachine x = new GuestClassMachine();
        Machines.used(x);
        Checks.due("before: reachable", x.reachable(), 3);
        x.reset();
        Checks.due("result", x.result(), 0);
        Checks.due("held(0)", x.held(0), -1);
        Checks.due("held(1)", x.held(1), -1);
        Checks.due("reachable", x.reachable(), 0);
        Checks.due("invoke", x.invoke(0, 2, 1), REFUSED);
        Checks.due("code", x.code(0), false);
        Checks.due("method", x.method(0), false);
        Checks.due("field", x.field(0), false);
        // All the room is there again.
        for (int round = 0; round < 2; round++) {
            for (int type = 0; type < 5; type++) {
                Checks.due("type", x.type(-1), type);
            }
            Checks.due("the sixth type", x.type(-1), -1);
            for (int name = 0; name < 4; name++) {
                Checks.due("field", x.field(name), true);
            }
            Checks.due("the fifth field", x.field(4), false);
            for (int name = 0; name < 8; name++) {
                Guest.method(x, name, PUSH, name + round, RETURN);
            }
            Checks.due("the ninth method", x.method(8), false);
            Guest.link(x);
            Guest.run("anew", x, Guest.call(4, 7, 0), DONE, 7 + round);
            x.reset();
        }
        // Not linked, and then full of another's objects.
        GuestClassMachine y = Chain.chain(10, Chain.MAKE, Chain.MAKE, Chain.MAKE);
        y.reset();
        y.type(-1);
        Guest.method(y, 8, NEW, 0, GSTORE, 0, NEW, 0, GSTORE, 1, GLOAD, 0, RETURN);
        Guest.link(y);
        Guest.run("room again", y, Guest.call(0, 8, 0), DONE, 0);
        Checks.due("reachable", y.reachable(), 2);
        Checks.due("no field of those before", y.peek(0, 8), NO_VALUE);
    }

    private static void resetKeepsThePlace() {
        Checks.sentence("The place stays.");
        int[][] codes = {{LOAD, 1, 99}, {LOAD, 1}, {LOAD, 1, RETURN}};
        int[] answers = {FORM, FLOW, OK};
        int[] due = {32 + 2, 32, -1};
        for (int i = 0; i < 3; i++) {
            GuestClassMachine x = Guest.single(2, ANSWER);
            Guest.method(x, 3, codes[i]);
            Guest.links("before", x, answers[i], due[i]);
            x.reset();
            Checks.due("after reset", x.place(), due[i]);
            x.reset();
            Checks.due("after two", x.place(), due[i]);
            x.type(-1);
            Checks.due("after a type", x.place(), due[i]);
            Guest.links("after the next link", x, OK, -1);
        }
    }

    /** Each code is checked after each other one on the same object, with the same answer as on a new one. */
    private static void nothingIsLeftOfEarlierChecks() {
        Checks.sentence("Gives up all types, methods and the link");
        int[] full = new int[32];
        java.util.Arrays.fill(full, POP);
        System.arraycopy(ANSWER, 0, full, 0, 3);
        int[] jumpBehind = full.clone();
        jumpBehind[3] = JUMP;
        jumpBehind[4] = 32;
        int[][] codes = {ANSWER, full, jumpBehind, {JUMP, 3, PUSH, 1, RETURN}, {JUMP, 2, PUSH, 1, RETURN},
            {NULL, POP, NULL, POP, PUSH, 1, RETURN}, {LOAD, 3, RETURN}, {PUSH, 1, STORE, 3, LOAD, 3, RETURN},
            {NULL, STORE, 3, LOAD, 1, JZERO, 9, PUSH, 1, ADD, RETURN}, {JUMP, 8, POP, POP, POP, POP, POP, POP,
            LOAD, 1, RETURN}, {NULL, NULL, NULL, NULL, NULL, POP, LOAD, 1, RETURN}, {POP, PUSH, 1, RETURN}};
        int[] answers = {OK, OK, FORM, FORM, OK, OK, FLOW, OK, FLOW, OK, OK, FLOW};
        int[] places = {-1, -1, 3, 0, -1, -1, 0, -1, 0, -1, -1, 0};
        for (int first = 0; first < codes.length; first++) {
            for (int second = 0; second < codes.length; second++) {
                GuestClassMachine x = Guest.single(2, codes[first]);
                Guest.method(x, 3, codes[first]);
                Guest.links("first " + first, x, answers[first], places[first]);
                x.reset();
                x.type(-1);
                Guest.method(x, 2, codes[second]);
                Guest.links(second + " after " + first, x, answers[second], places[second]);
            }
        }
    }
}
