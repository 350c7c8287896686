/** Machines in various states, for calls that are refused there. */
final class Machines implements Codes {
    private Machines() {
    }

    static void nothing(GuestClassMachine x) {
    }

    /** Two types, the second below the first and without a method; not linked. */
    static void open(GuestClassMachine x) {
        x.type(-1);
        x.field(0);
        x.field(8);
        Guest.method(x, 2, LOAD, 0, GSTORE, 0, LOAD, 0, LOAD, 1, PUT, 0, LOAD, 1, RETURN);
        x.type(0);
        x.field(9);
    }

    /** As open, but its latest link found a fault, and its last method is still without a RETURN. */
    static void faulty(GuestClassMachine x) {
        open(x);
        Guest.method(x, 3, PUSH, 5);
        Checks.due("faulty", x.link(), FLOW);
    }

    /** Linked, with objects in both globals and a result. */
    static void used(GuestClassMachine x) {
        open(x);
        Guest.method(x, 0, NEW, 0, STORE, 2, LOAD, 2, LOAD, 1, PUT, 0, LOAD, 0, LOAD, 2, PUT, 9,
            LOAD, 0, GSTORE, 1, LOAD, 1, RETURN);
        Guest.link(x);
        Guest.run("used", x, Guest.call(0, 2, 31), DONE, 31);
        Guest.run("used", x, Guest.call(1, 0, 32), DONE, 32);
    }

    static void fiveTypes(GuestClassMachine x) {
        open(x);
        x.type(-1);
        x.type(1);
        x.type(-1);
    }

    static void eightMethods(GuestClassMachine x) {
        x.type(-1);
        for (int name = 0; name < 8; name++) {
            Guest.method(x, name, PUSH, name, RETURN);
        }
    }
}
