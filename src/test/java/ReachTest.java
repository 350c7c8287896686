/** The sentences of "Terms" on sure refs and on what is reachable at a NEW; both sides of each edge. */
public final class ReachTest implements Codes {
    /** Lets the receiver go, so that the code's other refs are all that it holds. */
    private static final int[] DROP_RECEIVER = {NULL, STORE, 0};
    private static final int[] AN_INT = {PUSH, 1};
    private static final int[] A_REF = {NULL};

    public static void main(String[] args) {
        tenObjects();
        sureLocals();
        sureEntries();
        sureAtEachInstruction();
        globals();
        refFields();
        intFields();
        fieldsOverAndOver();
        asBeforeTheNew();
        asBeforeTheCall();
        withoutTheTwoEntries();
        everyActiveMethod();
        onlyGlobalsAtInvoke();
        unsureRefsDoNoHarm();
        Checks.finish();
    }

    private static void tenObjects() {
        Checks.sentence("6 NEW when 10 objects are REACHABLE");
        for (int length = 0; length <= 10; length++) {
            int[] code = Guest.join(DROP_RECEIVER, Chain.MAKE);
            GuestClassMachine x = Chain.chain(length, code, Chain.MAKE, Chain.MAKE);
            boolean fits = length < 10;
            Guest.run(length + " and none", x, Guest.call(0, 0, 1), fits ? DONE : THROWN, fits ? 0 : 6);
            boolean fitsWithReceiver = length < 9;
            Guest.run(length + " and one", x, Guest.call(0, 1, 1),
                fitsWithReceiver ? DONE : THROWN, fitsWithReceiver ? 0 : 6);
            Checks.due("reachable after it", x.reachable(), length);
        }
    }

    /** The argument is 1, so it is the way with the object that is gone. */
    private static void sureLocals() {
        Checks.sentence("a local is a sure ref at an instruction if it holds a REF on every way that reaches it");
        for (int local = 0; local < 4; local++) {
            String what = "local " + local;
            int[] store = {STORE, local};
            Chain.most(what + ", the only way", 1, Guest.join(DROP_RECEIVER, Guest.code(NEW, 0), store, Chain.MAKE));
            Chain.most(what + ", null on the other", 1, twoWaysToLocal(local, Guest.join(A_REF, store)));
            Chain.most(what + ", the global on the other", 1,
                twoWaysToLocal(local, Guest.join(Guest.code(GLOAD, 0), store)));
            Chain.most(what + ", an INT on the other", 0, twoWaysToLocal(local, Guest.join(AN_INT, store)));
            // Not stored on the other way: null in 0, the INT argument in 1, unset in 2 and 3.
            Chain.most(what + ", as at first on the other", local == 0 ? 1 : 0, twoWaysToLocal(local));
        }
    }

    private static int[] twoWaysToLocal(int local, int... other) {
        int meet = 13 + other.length;
        int[] first = {LOAD, 1, JZERO, 13, NEW, 0, STORE, local, JUMP, meet};
        return Guest.join(DROP_RECEIVER, first, other, Chain.MAKE);
    }

    private static void sureEntries() {
        Checks.sentence("likewise a stack entry");
        for (int below = 0; below < 4; below++) {
            String what = "entry " + below;
            int[] ints = new int[2 * below];
            int[] end = {NEW, 0, POP, POP, PUSH, 0, RETURN};
            Chain.most(what + ", the only way", 1, Guest.join(DROP_RECEIVER, ints, Guest.code(NEW, 0), end));
            Chain.most(what + ", null on the other", 1, twoWaysToEntry(ints, A_REF, end));
            Chain.most(what + ", an INT on the other", 0, twoWaysToEntry(ints, AN_INT, end));
            Chain.most(what + ", popped", 0, Guest.join(DROP_RECEIVER, ints, Guest.code(NEW, 0, POP, NULL), end));
        }
    }

    private static int[] twoWaysToEntry(int[] ints, int[] other, int[] end) {
        int second = 3 + ints.length + 8;
        int[] first = {LOAD, 1, JZERO, second, NEW, 0, JUMP, second + other.length};
        return Guest.join(DROP_RECEIVER, ints, first, other, end);
    }

    private static void sureAtEachInstruction() {
        Checks.sentence("a local is a sure ref at an instruction if it holds a REF on every way that reaches it");
        // The other way has an INT in local 2, but never comes to the NEW at byte 11.
        int[] before = {LOAD, 1, JZERO, 20, NEW, 0, STORE, 2};
        Chain.most("before the ways meet", 1, Guest.join(DROP_RECEIVER, before,
            Guest.code(NEW, 0, POP, PUSH, 0, RETURN), Guest.code(RETURN, RETURN, RETURN, PUSH, 1, STORE, 2),
            Guest.code(PUSH, 0, RETURN)));
        // Set anew after the ways met, it is sure again.
        Chain.most("sure again", 1, Guest.join(twoWaysToLocalThen(2, Guest.join(AN_INT, Guest.code(STORE, 2))),
            Guest.code(NULL, STORE, 2, NEW, 0, STORE, 2), Chain.MAKE));
        Chain.most("moved to another local", 0, Guest.join(twoWaysToLocalThen(2, Guest.join(AN_INT,
            Guest.code(STORE, 2))), Guest.code(LOAD, 2, STORE, 3), Chain.MAKE));
        // No value goes that way, but a way does.
        Chain.most("a way that no value goes", 0, Guest.join(DROP_RECEIVER, Guest.code(NEW, 0, STORE, 2,
            PUSH, 0, JZERO, 15, PUSH, 1, STORE, 2), Chain.MAKE));
        Chain.most("what no way reaches", 1, Guest.join(DROP_RECEIVER, Guest.code(NEW, 0, STORE, 2,
            JUMP, 13, PUSH, 1, STORE, 2), Chain.MAKE));
        // The loop's second round brings an INT, so in the first it isn't sure either.
        Chain.most("a later round", 0, Guest.join(DROP_RECEIVER, Guest.code(NEW, 0, STORE, 2, NEW, 0, POP,
            LOAD, 1, JZERO, 24, PUSH, 0, STORE, 1, PUSH, 0, STORE, 2, JUMP, 7), Guest.code(PUSH, 0, RETURN)));
    }

    private static int[] twoWaysToLocalThen(int local, int... other) {
        int[] whole = twoWaysToLocal(local, other);
        return java.util.Arrays.copyOf(whole, whole.length - Chain.MAKE.length);
    }

    private static void globals() {
        Checks.sentence("REACHABLE at a NEW are the objects that the globals hold");
        for (int inFirst = 0; inFirst <= 10; inFirst++) {
            GuestClassMachine x = new GuestClassMachine();
            x.type(-1);
            x.field(8);
            Guest.method(x, 0, LOAD, 0, GLOAD, 0, PUT, 8, LOAD, 0, GSTORE, 0, PUSH, 0, RETURN);
            Guest.method(x, 1, LOAD, 0, GLOAD, 1, PUT, 8, LOAD, 0, GSTORE, 1, PUSH, 0, RETURN);
            Guest.method(x, 2, Guest.join(DROP_RECEIVER, Chain.MAKE));
            Guest.link(x);
            for (int i = 0; i < 10; i++) {
                Guest.run("with " + i + " objects", x, Guest.call(0, 2, 0), DONE, 0);
                Guest.run("object " + i, x, Guest.call(0, i < inFirst ? 0 : 1, 0), DONE, 0);
            }
            Guest.run("with ten objects", x, Guest.call(0, 2, 0), THROWN, 6);
            Checks.due("reachable", x.reachable(), 10);
            x.clear(0);
            Checks.due("reachable from global 1", x.reachable(), 10 - inFirst);
        }
        Chain.most("the same in both", 1, GLOAD, 0, GSTORE, 1, NEW, 0, POP, NULL, GSTORE, 1, PUSH, 0, RETURN);
        Chain.most("made null", 1, NEW, 0, GSTORE, 1, NULL, GSTORE, 1, NEW, 0, POP, PUSH, 0, RETURN);
    }

    private static void refFields() {
        Checks.sentence("all that REF fields of reachable objects hold");
        for (int name = 8; name < 16; name++) {
            GuestClassMachine x = new GuestClassMachine();
            x.type(-1);
            x.field(name);
            Guest.method(x, 2, LOAD, 0, GLOAD, 0, PUT, name, LOAD, 0, GSTORE, 0, PUSH, 0, RETURN);
            Guest.link(x);
            for (int i = 1; i <= 12; i++) {
                boolean fits = i <= 10;
                Guest.run("object " + i, x, Guest.call(0, 2, 0), fits ? DONE : THROWN, fits ? 0 : 6);
                Checks.due("reachable", x.reachable(), fits ? i : 10);
            }
            for (int left = 9; left >= 0; left--) {
                Checks.due("follow", x.follow(0, name), true);
                Checks.due("reachable", x.reachable(), left);
            }
            Guest.run("room again", x, Guest.call(0, 2, 0), DONE, 0);
        }
    }

    private static void intFields() {
        Checks.sentence("all that REF fields of reachable objects hold");
        for (int name = 0; name < 8; name++) {
            GuestClassMachine x = new GuestClassMachine();
            x.type(-1);
            x.field(name);
            x.field(8);
            Guest.method(x, 2, LOAD, 0, LOAD, 1, PUT, name, LOAD, 0, GSTORE, 0, LOAD, 1, RETURN);
            Guest.link(x);
            for (int i = -1; i <= 11; i++) {
                Guest.run("an INT field", x, Guest.call(0, 2, i), DONE, i);
                Checks.due("reachable", x.reachable(), 1);
            }
        }
    }

    private static void fieldsOverAndOver() {
        Checks.sentence("all that REF fields of reachable objects hold");
        Chain.most("two fields", 2, Guest.join(Guest.code(NEW, 0, STORE, 2, LOAD, 0, LOAD, 2, PUT, 8,
            LOAD, 0, LOAD, 2, PUT, 9, NULL, STORE, 2), Chain.MAKE));
        Chain.most("two objects in two fields", 3, Guest.join(Guest.code(LOAD, 0, NEW, 0, PUT, 8,
            LOAD, 0, NEW, 0, PUT, 9), Chain.MAKE));
        Chain.most("a field made null", 1, Guest.join(Guest.code(LOAD, 0, GLOAD, 0, PUT, 8, LOAD, 0, NULL, PUT, 8),
            Chain.MAKE));
        Chain.most("a ring", 2, Guest.join(Guest.code(LOAD, 0, NEW, 0, PUT, 8, LOAD, 0, GET, 8, LOAD, 0, PUT, 8),
            Chain.MAKE));
        Chain.most("a ring of one", 1, Guest.join(Guest.code(LOAD, 0, LOAD, 0, PUT, 8), Chain.MAKE));
        Chain.most("a ring that nothing holds", 1, Guest.join(Guest.code(LOAD, 0, LOAD, 0, PUT, 8),
            DROP_RECEIVER, Guest.code(NEW, 0, STORE, 2), Chain.MAKE));
        // From the last of the chain back to its first, over the second field.
        Chain.most("what holds a reachable one isn't reachable", 0, Guest.join(Guest.code(LOAD, 0, GLOAD, 0, PUT, 9),
            DROP_RECEIVER, Chain.MAKE));
    }

    private static void asBeforeTheNew() {
        Checks.sentence("For the method that executes the NEW its locals and entries count as they are before the NEW");
        for (int local = 0; local < 4; local++) {
            Chain.most("stored over by the new one", 1, Guest.join(DROP_RECEIVER,
                Guest.code(NEW, 0, STORE, local, NEW, 0, STORE, local, PUSH, 0, RETURN)));
            Chain.most("made null before", 0, Guest.join(DROP_RECEIVER,
                Guest.code(NEW, 0, STORE, local, NULL, STORE, local, NEW, 0, STORE, local, PUSH, 0, RETURN)));
        }
        Chain.most("on the stack", 1, Guest.join(DROP_RECEIVER,
            Guest.code(NEW, 0, NEW, 0, SAME, POP, PUSH, 0, RETURN)));
        Chain.most("four on the stack", 4, Guest.join(DROP_RECEIVER,
            Guest.code(NEW, 0, NEW, 0, NEW, 0, NEW, 0, NEW, 0, POP, PUSH, 0, RETURN)));
        Chain.most("the same four times", 1, Guest.join(Guest.code(LOAD, 0, LOAD, 0, LOAD, 0, LOAD, 0),
            Chain.MAKE));
    }

    private static void asBeforeTheCall() {
        Checks.sentence("for a method that waits for a CALL they count as before that CALL");
        int[] make = Chain.MAKE;
        Chain.most("a local", 2, Guest.code(NEW, 0, STORE, 2, LOAD, 0, LOAD, 1, CALL, 1, RETURN), make, make);
        Chain.most("an entry", 2, Guest.code(NEW, 0, LOAD, 0, LOAD, 1, CALL, 1, RETURN), make, make);
        Chain.most("three entries", 4, Guest.code(NEW, 0, NEW, 0, NEW, 0, LOAD, 0, LOAD, 1, CALL, 1, RETURN),
            make, make);
        // After the call another way comes with INTs in their places.
        Chain.most("a local that isn't sure after the CALL", 2, Guest.code(NEW, 0, STORE, 2, LOAD, 1, JZERO, 18,
            LOAD, 0, LOAD, 1, CALL, 1, POP, PUSH, 0, RETURN, PUSH, 1, STORE, 2, PUSH, 1, JUMP, 14), make, make);
        Chain.most("an entry that isn't sure after the CALL", 2, Guest.code(NEW, 0, LOAD, 1, JZERO, 16,
            LOAD, 0, LOAD, 1, CALL, 1, POP, PUSH, 0, RETURN, POP, PUSH, 1, PUSH, 1, JUMP, 12), make, make);
        // Before the call another way comes with an INT.
        Chain.most("a local that isn't sure at the CALL", 1, Guest.code(LOAD, 1, JZERO, 10, NEW, 0, STORE, 2,
            JUMP, 14, PUSH, 1, STORE, 2, LOAD, 0, LOAD, 1, CALL, 1, RETURN), make, make);
        Chain.most("an entry that isn't sure at the CALL", 1, Guest.code(LOAD, 1, JZERO, 8, NEW, 0, JUMP, 10,
            PUSH, 1, LOAD, 0, LOAD, 1, CALL, 1, RETURN), make, make);
        // The INT argument of the caller is not an object's number.
        Chain.most("an INT entry", 1, Guest.code(PUSH, 1, PUSH, 2, PUSH, 3, LOAD, 0, LOAD, 1, CALL, 1, RETURN),
            make, make);
    }

    private static void withoutTheTwoEntries() {
        Checks.sentence("without the two entries that the CALL takes");
        int[] make = Chain.MAKE;
        int[] onNewWithNew = {NULL, STORE, 0, NEW, 0, NEW, 0, CALL, 5, RETURN};
        Chain.most("both held by the called one", 2, onNewWithNew, make, make);
        Chain.most("the receiver let go", 1, onNewWithNew, make, Guest.join(DROP_RECEIVER, make));
        Chain.most("the argument let go", 1, onNewWithNew, make, Guest.join(Guest.code(NULL, STORE, 1), make));
        Chain.most("the argument made an INT", 1, onNewWithNew, make, Guest.join(Guest.code(PUSH, 1, STORE, 1), make));
        Chain.most("both let go", 1, onNewWithNew, make,
            Guest.join(DROP_RECEIVER, Guest.code(NULL, STORE, 1), make));
        // Nothing but the receiver of the CALL is made here, so its own NEW has none beside it.
        Chain.most("the receiver alone, let go", 0, Guest.code(NULL, STORE, 0, NEW, 0, LOAD, 1, CALL, 1, RETURN),
            Guest.join(DROP_RECEIVER, make), make);
        Chain.most("the receiver alone, held", 1, Guest.code(NULL, STORE, 0, NEW, 0, LOAD, 1, CALL, 1, RETURN),
            make, make);
        // The entry below the two counts.
        Chain.most("the entry below", 1, Guest.code(NULL, STORE, 0, NEW, 0, NEW, 0, LOAD, 1, CALL, 1, RETURN),
            Guest.join(DROP_RECEIVER, make), make);
    }

    private static void everyActiveMethod() {
        Checks.sentence("the sure refs of every active method");
        // Each call is on a new object; the sixth method makes one more.
        int[] deeper = {LOAD, 1, JZERO, 14, NEW, 0, LOAD, 1, PUSH, 1, SUB, CALL, 1, RETURN,
            NEW, 0, POP, PUSH, 0, RETURN};
        Chain.most("six active", 5, Guest.code(LOAD, 0, PUSH, 4, CALL, 1, RETURN), deeper, Chain.MAKE);
        Chain.most("three active", 2, Guest.code(LOAD, 0, PUSH, 1, CALL, 1, RETURN), deeper, Chain.MAKE);
        // A method that has answered holds nothing.
        Chain.most("answered", 2, Guest.code(LOAD, 0, PUSH, 1, CALL, 1, POP, NEW, 0, STORE, 2, NEW, 0, POP,
            PUSH, 0, RETURN), deeper, Chain.MAKE);
        Chain.most("answered, then nothing", 1, Guest.code(LOAD, 0, PUSH, 1, CALL, 1, POP, NEW, 0, POP,
            PUSH, 0, RETURN), Guest.code(NEW, 0, STORE, 2, PUSH, 0, RETURN), Chain.MAKE);
    }

    private static void onlyGlobalsAtInvoke() {
        Checks.sentence("Makes a new object of a type as by NEW (only the globals are held then)");
        // Each time five objects are left in the methods that were active at the end.
        int[] hold = {NEW, 0, NEW, 0, LOAD, 0, LOAD, 1, CALL, 1, RETURN};
        int[][] ends = {{NEW, 0, NEW, 0, JUMP, 4}, {NEW, 0, NEW, 0, PUSH, 1, PUSH, 0, DIV, RETURN},
            {NEW, 0, NEW, 0, PUSH, 0, RETURN}};
        int[] outcomes = {STOPPED, THROWN, DONE};
        int[] results = {0, 2, 0};
        for (int i = 0; i < ends.length; i++) {
            GuestClassMachine x = Chain.chain(5, hold, ends[i], Chain.MAKE);
            Guest.run("with five left behind", x, Guest.call(0, 0, 1), outcomes[i], results[i]);
            for (int k = 6; k <= 10; k++) {
                Guest.run("object " + k, x, Guest.call(0, 2, 0), DONE, 0);
                Guest.run("refused", x, Guest.call(0, 15, 0), REFUSED, 0);
            }
            Guest.run("the eleventh", x, Guest.call(0, 2, 0), THROWN, 6);
            Checks.due("reachable", x.reachable(), 10);
        }
    }

    /** What only an unsure ref holds may be gone at a NEW; its local can still be moved and stored over. */
    private static void unsureRefsDoNoHarm() {
        Checks.sentence("SURE REFS");
        int[] mixed = twoWaysToLocalThen(2, Guest.join(AN_INT, Guest.code(STORE, 2)));
        int[] then = {NEW, 0, GSTORE, 1, LOAD, 2, STORE, 3, LOAD, 3, POP, PUSH, 0, RETURN};
        for (int length = 0; length < 10; length++) {
            GuestClassMachine x = Chain.chain(length, Guest.join(mixed, then), Chain.MAKE, Chain.MAKE);
            Guest.run("unsure with " + length, x, Guest.call(0, 0, 1), DONE, 0);
            Checks.due("reachable", x.reachable(), length + 1);
            Checks.due("held(1)", x.held(1), 0);
            Checks.due("peek(1, 8)", x.peek(1, 8), -1);
        }
    }
}
