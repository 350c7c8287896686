/** The sentences of "Terms" on the flow of a method; both sides of each edge. */
public final class FlowTest implements Codes {
    private static final int[] AN_INT = {PUSH, 1};
    private static final int[] A_REF = {NULL};
    /** Ends a method of name 2, whatever is on the stack. */
    private static final int[] END = {STORE, 3, PUSH, 1, RETURN};

    public static void main(String[] args) {
        atTheStart();
        needsOfOne();
        needsOfJzero();
        needsOfTwo();
        needsOfPut();
        needsOfCall();
        needsOfReturn();
        localsAreNoEntries();
        unsetLocals();
        setOnOneWay();
        waysApart();
        sixthEntry();
        sixthEntryAfterTaking();
        pastTheLastByte();
        pastTheLastByteOfAFullMethod();
        numbersOfEntries();
        bothDirections();
        whatNoWayReaches();
        kindsThatMeet();
        kindsOfLaterRounds();
        placeAfterFlow();
        Checks.finish();
    }

    private static void expect(boolean passes, int name, int[]... parts) {
        Guest.checked(name, passes ? OK : FLOW, passes ? -1 : 0, Guest.join(parts));
    }

    private static void atTheStart() {
        Checks.sentence("A way goes from byte 0, with an empty stack, local 0 a REF, local 1 of its kind");
        Guest.flow(2, POP, PUSH, 1, RETURN);
        Guest.fine(2, NULL, POP, PUSH, 1, RETURN);
        Guest.fine(2, LOAD, 0, IS, 0, RETURN);
        Guest.flow(2, LOAD, 0, RETURN);
        Guest.fine(2, LOAD, 1, RETURN);
        Guest.flow(6, LOAD, 1, RETURN);
        Guest.fine(14, LOAD, 1, RETURN);
        Guest.flow(10, LOAD, 1, RETURN);
    }

    private static void needsOfOne() {
        Checks.sentence("the entries that it takes are not there or not of the kinds shown");
        needsOne(true, true, STORE, 2, PUSH, 1, RETURN);
        needsOne(true, true, POP, PUSH, 1, RETURN);
        needsOne(false, true, GET, 0, RETURN);
        needsOne(false, true, GET, 15, POP, PUSH, 1, RETURN);
        needsOne(false, true, IS, 0, RETURN);
        needsOne(false, true, GSTORE, 1, PUSH, 1, RETURN);
    }

    private static void needsOne(boolean takesInt, boolean takesRef, int... code) {
        expect(false, 2, code);
        expect(takesInt, 2, AN_INT, code);
        expect(takesRef, 2, A_REF, code);
    }

    private static void needsOfJzero() {
        Checks.sentence("the entries that it takes are not there or not of the kinds shown");
        Guest.flow(2, JZERO, 2, PUSH, 1, RETURN);
        Guest.fine(2, PUSH, 1, JZERO, 4, PUSH, 1, RETURN);
        Guest.flow(2, NULL, JZERO, 3, PUSH, 1, RETURN);
        Guest.flow(2, PUSH, 1, NULL, JZERO, 5, RETURN);
    }

    private static void needsOfTwo() {
        Checks.sentence("the entries that it takes are not there or not of the kinds shown");
        int[] ops = {ADD, SUB, MUL, DIV, LESS, SAME};
        for (int op : ops) {
            int[] code = {op, RETURN};
            boolean ofInts = op != SAME;
            expect(false, 2, code);
            expect(false, 2, AN_INT, code);
            expect(false, 2, A_REF, code);
            expect(ofInts, 2, AN_INT, AN_INT, code);
            expect(!ofInts, 2, A_REF, A_REF, code);
            expect(false, 2, AN_INT, A_REF, code);
            expect(false, 2, A_REF, AN_INT, code);
            // It gives an INT.
            expect(false, 8, ofInts ? AN_INT : A_REF, ofInts ? AN_INT : A_REF, code);
        }
    }

    private static void needsOfPut() {
        Checks.sentence("v stands for either kind, but for the kind of the field at PUT");
        for (int name = 0; name < 16; name++) {
            int[] code = {PUT, name, PUSH, 1, RETURN};
            int[] right = name < 8 ? AN_INT : A_REF;
            int[] wrong = name < 8 ? A_REF : AN_INT;
            expect(true, 2, A_REF, right, code);
            expect(false, 2, A_REF, wrong, code);
            expect(false, 2, AN_INT, right, code);
            expect(false, 2, AN_INT, wrong, code);
            expect(false, 2, right, code);
            expect(false, 2, code);
        }
    }

    private static void needsOfCall() {
        Checks.sentence("of the argument at CALL");
        for (int name = 0; name < 16; name++) {
            int[] code = {CALL, name, RETURN};
            int caller = name < 8 ? 2 : 10;
            int[] right = (name & 4) == 0 ? AN_INT : A_REF;
            int[] wrong = (name & 4) == 0 ? A_REF : AN_INT;
            expect(true, caller, A_REF, right, code);
            expect(false, caller, A_REF, wrong, code);
            expect(false, caller, AN_INT, right, code);
            expect(false, caller, AN_INT, wrong, code);
            expect(false, caller, right, code);
            expect(false, caller, code);
            expect(false, 12 - caller, A_REF, right, code);
        }
    }

    private static void needsOfReturn() {
        Checks.sentence("of the method's answer at RETURN");
        int[] code = {RETURN};
        for (int name = 0; name < 16; name++) {
            expect(name < 8, name, AN_INT, code);
            expect(name >= 8, name, A_REF, code);
            expect(false, name, code);
            // What is below the answer may be of either kind.
            expect(name < 8, name, A_REF, AN_INT, code);
            expect(name >= 8, name, AN_INT, A_REF, code);
        }
    }

    /** The entries are missing, while the locals have what is needed. */
    private static void localsAreNoEntries() {
        Checks.sentence("the entries that it takes are not there");
        int[] ints = {PUSH, 1, STORE, 2, PUSH, 1, STORE, 3};
        int[] refs = {NULL, STORE, 2, NULL, STORE, 3};
        int[] refAndInt = {NULL, STORE, 2, PUSH, 1, STORE, 3};
        int[][] takeOneInt = {{STORE, 1}, {POP}, {RETURN}};
        for (int[] op : takeOneInt) {
            expect(false, 2, ints, op, Guest.code(PUSH, 1, RETURN));
            expect(true, 2, ints, AN_INT, op, Guest.code(PUSH, 1, RETURN));
        }
        expect(false, 2, ints, Guest.code(JZERO, 10, PUSH, 1, RETURN));
        expect(true, 2, ints, AN_INT, Guest.code(JZERO, 12, PUSH, 1, RETURN));
        int[] ops = {ADD, SUB, MUL, DIV, LESS};
        for (int op : ops) {
            expect(false, 2, ints, Guest.code(op, RETURN));
            expect(false, 2, ints, AN_INT, Guest.code(op, RETURN));
            expect(true, 2, ints, AN_INT, AN_INT, Guest.code(op, RETURN));
        }
        int[][] takeOneRef = {{GET, 0}, {IS, 0}, {GSTORE, 0}};
        for (int[] op : takeOneRef) {
            expect(false, 2, refs, op, Guest.code(PUSH, 1, RETURN));
            expect(true, 2, refs, A_REF, op, Guest.code(PUSH, 1, RETURN));
        }
        int[][] takeTwo = {{SAME}, {PUT, 8}, {CALL, 4}};
        for (int[] op : takeTwo) {
            expect(false, 2, refs, op, Guest.code(PUSH, 1, RETURN));
            expect(false, 2, refs, A_REF, op, Guest.code(PUSH, 1, RETURN));
            expect(true, 2, refs, A_REF, A_REF, op, Guest.code(PUSH, 1, RETURN));
        }
        expect(false, 2, refAndInt, Guest.code(PUT, 0, PUSH, 1, RETURN));
        expect(false, 2, refAndInt, Guest.code(CALL, 0, PUSH, 1, RETURN));
    }

    /** What one way does with a local or an entry is not seen on the other. */
    private static void waysApart() {
        Checks.sentence("A way goes .. on from instruction to instruction, at JZERO in both directions");
        for (int local = 0; local < 4; local++) {
            int[] setInt = {PUSH, 1, STORE, local};
            int[] setRef = {NULL, STORE, local};
            int[] useInt = {LOAD, local, PUSH, 1, ADD, RETURN};
            int[] useRef = {LOAD, local, IS, 0, RETURN};
            // A REF on both, then an INT on the way straight on; and the other way round.
            expect(true, 2, setRef, Guest.code(LOAD, 1, POP, PUSH, 1, JZERO, 20), setInt, useInt, useRef);
            expect(false, 2, setRef, Guest.code(LOAD, 1, POP, PUSH, 1, JZERO, 20), setInt, useRef, Guest.code(NULL),
                useRef);
            expect(true, 2, setInt, Guest.code(LOAD, 1, POP, PUSH, 1, JZERO, 19), setRef, useRef, useInt);
            expect(false, 2, setInt, Guest.code(LOAD, 1, POP, PUSH, 1, JZERO, 19), setRef, useRef, useRef);
        }
        Guest.fine(2, NULL, PUSH, 1, JZERO, 12, POP, PUSH, 1, PUSH, 2, ADD, RETURN, IS, 0, RETURN);
    }

    private static void unsetLocals() {
        Checks.sentence("a LOAD of an unset local");
        for (int local = 2; local < 4; local++) {
            Guest.flow(2, LOAD, local, RETURN);
            Guest.flow(2, LOAD, local, POP, PUSH, 1, RETURN);
            Guest.fine(2, PUSH, 1, STORE, local, LOAD, local, RETURN);
            Guest.fine(10, NULL, STORE, local, LOAD, local, RETURN);
            Guest.flow(2, PUSH, 1, STORE, 5 - local, LOAD, local, RETURN);
        }
        Guest.fine(2, LOAD, 0, POP, LOAD, 1, RETURN);
    }

    private static void setOnOneWay() {
        Checks.sentence("A method is refused if some way reaches an instruction whose needs are not met there");
        for (int local = 2; local < 4; local++) {
            Guest.flow(2, LOAD, 1, JZERO, 8, PUSH, 1, STORE, local, LOAD, local, RETURN);
            Guest.flow(10, LOAD, 1, JZERO, 7, NULL, STORE, local, LOAD, local, RETURN);
            Guest.fine(2, LOAD, 1, JZERO, 8, PUSH, 1, STORE, local, LOAD, 1, RETURN);
            Guest.fine(2, LOAD, 1, JZERO, 10, PUSH, 1, STORE, local, JUMP, 14, PUSH, 2, STORE, local,
                LOAD, local, RETURN);
        }
    }

    private static void sixthEntry() {
        Checks.sentence("Its stack has room for 5 entries. / a sixth entry");
        int[][] giving = {{PUSH, 1}, {LOAD, 0}, {LOAD, 1}, {NULL}, {NEW, 0}, {GLOAD, 0}};
        for (int[] give : giving) {
            for (int height = 0; height < 7; height++) {
                int[][] parts = new int[height + 2][];
                for (int i = 0; i < height; i++) {
                    parts[i] = i % 2 == 0 ? AN_INT : A_REF;
                }
                parts[height] = give;
                parts[height + 1] = END;
                expect(height <= 4, 2, parts);
            }
        }
    }

    private static void sixthEntryAfterTaking() {
        Checks.sentence("Its stack has room for 5 entries. / a sixth entry");
        int[] three = {PUSH, 1, NULL, PUSH, 2};
        expect(true, 2, three, AN_INT, A_REF, Guest.code(GET, 0), END);
        expect(true, 2, three, AN_INT, A_REF, Guest.code(IS, 0), END);
        expect(true, 2, three, A_REF, AN_INT, Guest.code(CALL, 0), END);
        expect(true, 2, three, A_REF, A_REF, Guest.code(SAME), END);
        int[] ops = {ADD, SUB, MUL, DIV, LESS};
        for (int op : ops) {
            expect(true, 2, three, AN_INT, AN_INT, Guest.code(op), END);
        }
        expect(true, 2, three, AN_INT, AN_INT, Guest.code(RETURN));
    }

    private static void pastTheLastByte() {
        Checks.sentence("if some way goes on past the last byte");
        int[][] last = {{PUSH, 1}, {LOAD, 0}, {STORE, 2}, {POP}, {ADD}, {SUB}, {MUL}, {DIV}, {LESS}, {JZERO, 0},
            {NULL}, {NEW, 0}, {CALL, 0}, {GLOAD, 0}};
        int[] entries = {LOAD, 0, PUSH, 1, PUSH, 1};
        int[] takesRefs = {GLOAD, 0, GLOAD, 0};
        for (int[] op : last) {
            int[] before = op[0] == CALL ? Guest.code(LOAD, 0, PUSH, 1) : entries;
            Guest.flow(2, Guest.join(before, op));
            Guest.flow(2, Guest.join(before, Guest.code(POP, PUSH, 1), op));
        }
        int[][] onRefs = {{SAME}, {GET, 0}, {PUT, 8}, {IS, 0}, {GSTORE, 0}};
        for (int[] op : onRefs) {
            Guest.flow(2, Guest.join(takesRefs, op));
            boolean gives = op[0] != PUT && op[0] != GSTORE;
            int[] then = gives ? Guest.code(RETURN) : Guest.code(PUSH, 1, RETURN);
            Guest.fine(2, Guest.join(takesRefs, op, then));
        }
        Guest.fine(2, PUSH, 1, RETURN);
        Guest.fine(2, NULL, POP, JUMP, 0);
        // A JZERO at the end goes on past it, though its value is always 0.
        Guest.flow(2, PUSH, 0, JZERO, 0);
        Guest.flow(2, JUMP, 5, PUSH, 1, RETURN, PUSH, 0, JZERO, 2);
        // Only one of two ways goes on past it.
        Guest.flow(2, LOAD, 1, JZERO, 7, PUSH, 1, RETURN, NULL);
        Guest.fine(2, LOAD, 1, JZERO, 7, PUSH, 1, RETURN, LOAD, 1, RETURN);
    }

    private static void pastTheLastByteOfAFullMethod() {
        Checks.sentence("if some way goes on past the last byte");
        int[] code = new int[32];
        for (int i = 0; i < 30; i += 2) {
            code[i] = NULL;
            code[i + 1] = POP;
        }
        // The next method's code would answer.
        code[30] = PUSH;
        code[31] = 1;
        GuestClassMachine x = Guest.single(2, code);
        Guest.method(x, 3, RETURN);
        Guest.links("on into the next method", x, FLOW, 0);
        code[30] = JUMP;
        code[31] = 0;
        GuestClassMachine y = Guest.single(2, code);
        Guest.method(y, 3, PUSH, 1, RETURN);
        Guest.links("a jump at the end", y, OK, -1);
        code[29] = PUSH;
        code[30] = 1;
        code[31] = RETURN;
        GuestClassMachine z = Guest.single(2, code);
        Guest.method(z, 3, PUSH, 1, RETURN);
        Guest.links("an answer at the end", z, OK, -1);
    }

    private static void numbersOfEntries() {
        Checks.sentence("if two ways reach the same instruction with different numbers of entries");
        Guest.flow(2, LOAD, 1, JZERO, 6, PUSH, 1, PUSH, 1, RETURN);
        Guest.flow(2, PUSH, 1, LOAD, 1, JZERO, 7, POP, PUSH, 1, RETURN);
        Guest.fine(2, LOAD, 1, JZERO, 7, PUSH, 1, POP, PUSH, 1, RETURN);
        Guest.fine(2, LOAD, 1, JZERO, 8, PUSH, 1, JUMP, 10, PUSH, 2, RETURN);
        // None and one, one and two, four and five, each time at a POP or an answer that both could do.
        for (int height = 0; height < 4; height++) {
            int[][] parts = new int[height + 1][];
            java.util.Arrays.fill(parts, AN_INT);
            int start = 2 * height + 2;
            int meet = start + 6;
            parts[height] = Guest.code(PUSH, 1, LOAD, 1, JZERO, meet, NULL, POP);
            // The one way comes with as many entries as the other.
            expect(true, 2, Guest.join(parts), Guest.code(LOAD, 1, RETURN));
            parts[height] = Guest.code(PUSH, 1, LOAD, 1, JZERO, meet + 1, NULL, POP, POP);
            expect(false, 2, Guest.join(parts), Guest.code(LOAD, 1, RETURN));
        }
        // Rounds of a loop that leave one entry more, one less, and as many.
        Guest.flow(2, PUSH, 1, JUMP, 0);
        Guest.flow(2, PUSH, 1, PUSH, 1, POP, JUMP, 0);
        Guest.flow(2, PUSH, 1, POP, JUMP, 2);
        Guest.fine(2, PUSH, 1, POP, JUMP, 0);
        Guest.fine(2, PUSH, 1, PUSH, 2, POP, JUMP, 2);
    }

    private static void bothDirections() {
        Checks.sentence("at JZERO in both directions, whatever the values are");
        Guest.flow(2, PUSH, 0, JZERO, 5, ADD, PUSH, 1, RETURN);
        Guest.flow(2, PUSH, 1, JZERO, 7, PUSH, 1, RETURN, ADD, RETURN);
        Guest.flow(2, PUSH, 0, JZERO, 6, NULL, RETURN, PUSH, 1, RETURN);
        Guest.fine(2, PUSH, 0, JZERO, 7, PUSH, 2, RETURN, PUSH, 1, RETURN);
    }

    private static void whatNoWayReaches() {
        Checks.sentence("if some way reaches an instruction");
        int[][] faults = {{ADD}, {POP}, {RETURN}, {LOAD, 2}, {NULL},
            {PUSH, 1, PUSH, 1, PUSH, 1, PUSH, 1, PUSH, 1, PUSH, 1}};
        for (int[] fault : faults) {
            Guest.fine(2, Guest.join(Guest.code(PUSH, 1, RETURN), fault));
            Guest.fine(2, Guest.join(Guest.code(JUMP, 0), fault));
            Guest.flow(2, Guest.join(fault, Guest.code(POP, POP, POP, POP, POP, POP, POP)));
        }
        Guest.fine(2, JUMP, 3, ADD, PUSH, 1, RETURN);
        // A jump from where no way comes brings no other number of entries.
        Guest.fine(2, PUSH, 1, RETURN, NULL, NULL, JUMP, 0);
    }

    private static void kindsThatMeet() {
        Checks.sentence("A method is refused if some way reaches an instruction whose needs are not met there");
        int[] mixed = {LOAD, 1, JZERO, 8, PUSH, 1, JUMP, 9, NULL};
        expect(true, 2, mixed, Guest.code(POP, PUSH, 1, RETURN));
        expect(true, 2, mixed, Guest.code(STORE, 0, PUSH, 1, RETURN));
        expect(true, 2, mixed, Guest.code(STORE, 2, LOAD, 2, POP, PUSH, 1, RETURN));
        expect(true, 2, mixed, Guest.code(STORE, 2, PUSH, 5, STORE, 2, LOAD, 2, RETURN));
        int[][] uses = {{RETURN}, {IS, 0}, {GET, 0}, {GSTORE, 0}, {JZERO, 9}, {PUSH, 1, ADD}, {NULL, SAME}};
        for (int[] use : uses) {
            expect(false, 2, mixed, use, END);
            expect(false, 10, mixed, use, Guest.code(NULL, RETURN));
            expect(false, 2, mixed, Guest.code(STORE, 2, LOAD, 2), use, END);
        }
        int[] below = {LOAD, 1, JZERO, 8, PUSH, 1, JUMP, 9, NULL, PUSH, 1};
        expect(false, 2, below, Guest.code(ADD, RETURN));
        expect(false, 2, below, Guest.code(PUT, 0, PUSH, 1, RETURN));
        expect(false, 2, below, Guest.code(CALL, 0, RETURN));
        expect(true, 2, below, Guest.code(RETURN));
        int[] onRef = {NULL, LOAD, 1, JZERO, 9, PUSH, 1, JUMP, 10, NULL};
        expect(false, 2, onRef, Guest.code(PUT, 0, PUSH, 1, RETURN));
        expect(false, 2, onRef, Guest.code(PUT, 8, PUSH, 1, RETURN));
        expect(false, 2, onRef, Guest.code(CALL, 0, RETURN));
        expect(false, 2, onRef, Guest.code(CALL, 4, RETURN));
        expect(true, 2, onRef, Guest.code(POP, POP, PUSH, 1, RETURN));
    }

    private static void kindsOfLaterRounds() {
        Checks.sentence("A method is refused if some way reaches an instruction whose needs are not met there");
        // The second round has a REF in local 1, the third has it over local 2 in local 3.
        Guest.flow(2, LOAD, 1, PUSH, 1, ADD, POP, NULL, STORE, 1, JUMP, 0);
        Guest.fine(2, LOAD, 1, PUSH, 1, ADD, POP, PUSH, 1, STORE, 1, JUMP, 0);
        Guest.flow(2, PUSH, 1, STORE, 2, PUSH, 1, STORE, 3, LOAD, 3, PUSH, 1, ADD, POP,
            LOAD, 2, STORE, 3, NULL, STORE, 2, JUMP, 8);
        Guest.fine(2, PUSH, 1, STORE, 2, PUSH, 1, STORE, 3, LOAD, 3, POP,
            LOAD, 2, STORE, 3, NULL, STORE, 2, JUMP, 8);
        // The fourth round: over 1, 2 and 3 into 0, which is used as a REF.
        Guest.flow(6, NULL, STORE, 2, NULL, STORE, 3, LOAD, 0, GSTORE, 0, LOAD, 3, STORE, 0, LOAD, 2, STORE, 3,
            LOAD, 1, STORE, 2, PUSH, 1, STORE, 1, JUMP, 6);
        Guest.fine(6, NULL, STORE, 2, NULL, STORE, 3, LOAD, 0, GSTORE, 0, LOAD, 3, STORE, 0, LOAD, 2, STORE, 3,
            LOAD, 1, STORE, 2, NULL, STORE, 1, JUMP, 6);
    }

    private static void placeAfterFlow() {
        Checks.sentence("the method's number * 32 after FLOW");
        GuestClassMachine x = new GuestClassMachine();
        x.type(-1);
        for (int m = 0; m < 8; m++) {
            // The fault is far from the first byte, and is mended after the look.
            Guest.method(x, m, NULL, POP, PUSH, 1, POP, PUSH, 1);
            Guest.links("method " + m, x, FLOW, m * 32);
            Guest.write(x, RETURN);
        }
        Guest.links("all pass", x, OK, -1);
    }
}
