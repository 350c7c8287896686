/** A chain of objects in global 0, to find out how many objects a code has reachable at a NEW. */
final class Chain implements Codes {
    /** Makes an object and answers 0. */
    static final int[] MAKE = {NEW, 0, POP, PUSH, 0, RETURN};

    private Chain() {
    }

    /** Method 2 puts its receiver in front of the chain in global 0; method 0 has the given code. */
    static GuestClassMachine chain(int length, int[] code, int[] calledWithInt, int[] calledWithRef) {
        GuestClassMachine x = new GuestClassMachine();
        x.type(-1);
        x.field(0);
        x.field(8);
        x.field(9);
        Guest.method(x, 2, LOAD, 0, GLOAD, 0, PUT, 8, LOAD, 0, GSTORE, 0, PUSH, 0, RETURN);
        Guest.method(x, 0, code);
        Guest.method(x, 1, calledWithInt);
        Guest.method(x, 5, calledWithRef);
        Guest.link(x);
        for (int i = 0; i < length; i++) {
            Checks.due("chain", x.invoke(0, 2, 0), DONE);
        }
        Checks.due("chain: reachable", x.reachable(), length);
        return x;
    }

    /** The most objects beside those of the global that the code has reachable at a NEW. */
    static void most(String what, int due, int[] code, int[] calledWithInt, int[] calledWithRef) {
        GuestClassMachine fits = chain(9 - due, code, calledWithInt, calledWithRef);
        Guest.run(what + ", 9 reachable", fits, Guest.call(0, 0, 1), DONE, 0);
        Checks.due(what + ": only the global holds then", fits.reachable(), 9 - due);
        GuestClassMachine full = chain(10 - due, code, calledWithInt, calledWithRef);
        Guest.run(what + ", 10 reachable", full, Guest.call(0, 0, 1), THROWN, 6);
        Checks.due(what + ": only the global holds then", full.reachable(), 10 - due);
    }

    static void most(String what, int due, int... code) {
        most(what, due, code, MAKE, MAKE);
    }
}
