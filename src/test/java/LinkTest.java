/** Promises 6 and 7, link and place, with the check of a method: its form, then its flow. */
public final class LinkTest implements Codes {
    public static void main(String[] args) {
        emptyAndTypesAlone();
        formOfSingleBytes();
        formOfOperands();
        formOfJumps();
        needsOfEachInstruction();
        kindsByName();
        locals();
        heights();
        ends();
        waysThatMeet();
        orderOfMethods();
        laterCodeMendsAFault();
        longestMethods();
        fullMethods();
        anew();
        Checks.finish();
    }

    private static void emptyAndTypesAlone() {
        GuestClassMachine x = new GuestClassMachine();
        Checks.due("empty: link", x.link(), EMPTY);
        Checks.due("empty: place", x.place(), -1);
        x.type(-1);
        Checks.due("types alone: link", x.link(), OK);
        x.reset();
        x.type(-1);
        x.method(0);
        Checks.due("no code: link", x.link(), FORM);
        Checks.due("no code: place", x.place(), 0);
        x.reset();
        Checks.due("empty after a fault: link", x.link(), EMPTY);
        Checks.due("empty after a fault: place", x.place(), -1);
    }

    private static void formOfSingleBytes() {
        Guest.form(0, 21);
        Guest.form(0, 255);
        Guest.form(2, LOAD, 1, 21, RETURN);
        Guest.form(3, LOAD, 1, RETURN, 200);
        int[] withOperand = {PUSH, LOAD, STORE, JUMP, JZERO, NEW, GET, PUT, CALL, IS, GLOAD, GSTORE};
        for (int op : withOperand) {
            Guest.form(0, op);
            Guest.form(3, LOAD, 1, RETURN, op);
        }
        int[] alone = {POP, ADD, SUB, MUL, DIV, LESS, SAME, NULL, RETURN};
        for (int op : alone) {
            Guest.fine(2, LOAD, 1, RETURN, op);
        }
    }

    private static void formOfOperands() {
        edge(LOAD, 3);
        edge(STORE, 3);
        edge(GET, 15);
        edge(PUT, 15);
        edge(CALL, 15);
        edge(GLOAD, 1);
        edge(GSTORE, 1);
        edge(NEW, 0);
        edge(IS, 0);
        Guest.fine(2, LOAD, 1, RETURN, PUSH, 255);
        // The types that come after the method count too.
        GuestClassMachine x = Guest.single(2, LOAD, 1, RETURN, NEW, 2, IS, 3);
        Checks.due("one type: link", x.link(), FORM);
        Checks.due("one type: place", x.place(), 3);
        x.type(-1);
        x.type(-1);
        Checks.due("three types: link", x.link(), FORM);
        Checks.due("three types: place", x.place(), 5);
        x.type(0);
        Checks.due("four types: link", x.link(), OK);
    }

    private static void edge(int op, int greatest) {
        Guest.fine(2, LOAD, 1, RETURN, op, 0);
        Guest.fine(2, LOAD, 1, RETURN, op, greatest);
        Guest.form(3, LOAD, 1, RETURN, op, greatest + 1);
        Guest.form(3, LOAD, 1, RETURN, op, 255);
    }

    private static void formOfJumps() {
        Guest.form(0, JUMP, 1, LOAD, 1, RETURN);
        Guest.form(0, JUMP, 3, LOAD, 1, RETURN);
        Guest.form(0, JUMP, 5, LOAD, 1, RETURN);
        Guest.form(0, JUMP, 255, LOAD, 1, RETURN);
        Guest.form(2, LOAD, 1, JZERO, 1, LOAD, 1, RETURN);
        Guest.form(2, LOAD, 1, JZERO, 7, LOAD, 1, RETURN);
        Guest.form(3, LOAD, 1, RETURN, JUMP, 32);
        Guest.fine(2, JUMP, 2, LOAD, 1, RETURN);
        Guest.fine(2, LOAD, 1, JZERO, 4, LOAD, 1, RETURN);
        Guest.fine(2, JUMP, 0);
        // The first of two jumps; a byte's fault anywhere comes before all jumps.
        Guest.form(2, JUMP, 2, JUMP, 1, JUMP, 3);
        Guest.form(5, JUMP, 1, LOAD, 1, RETURN, 21);
        Guest.form(3, JZERO, 1, RETURN, LOAD, 4);
    }

    private static void needsOfEachInstruction() {
        int[] intsFromInts = {ADD, SUB, MUL, DIV, LESS};
        for (int op : intsFromInts) {
            Guest.fine(0, PUSH, 1, PUSH, 2, op, RETURN);
            Guest.flow(0, op, RETURN);
            Guest.flow(0, PUSH, 1, op, RETURN);
            Guest.flow(0, NULL, PUSH, 1, op, RETURN);
            Guest.flow(0, PUSH, 1, NULL, op, RETURN);
            Guest.flow(8, PUSH, 1, PUSH, 2, op, RETURN);
        }
        Guest.fine(0, NULL, LOAD, 0, SAME, RETURN);
        Guest.flow(0, NULL, SAME, RETURN);
        Guest.flow(0, NULL, PUSH, 0, SAME, RETURN);
        Guest.flow(0, PUSH, 0, NULL, SAME, RETURN);
        Guest.flow(8, NULL, NULL, SAME, RETURN);
        Guest.flow(0, POP, PUSH, 0, RETURN);
        Guest.flow(0, STORE, 2, PUSH, 0, RETURN);
        Guest.flow(0, JZERO, 2, PUSH, 0, RETURN);
        Guest.flow(0, NULL, JZERO, 3, PUSH, 0, RETURN);
        Guest.fine(0, PUSH, 0, POP, NULL, POP, PUSH, 0, RETURN);
        Guest.fine(8, NEW, 0, RETURN);
        Guest.flow(0, NEW, 0, RETURN);
        Guest.fine(8, NULL, RETURN);
        Guest.flow(0, NULL, RETURN);
        Guest.fine(0, NULL, IS, 0, RETURN);
        Guest.flow(0, PUSH, 0, IS, 0, RETURN);
        Guest.flow(0, IS, 0, RETURN);
        Guest.flow(8, NULL, IS, 0, RETURN);
        Guest.fine(8, GLOAD, 1, RETURN);
        Guest.flow(0, GLOAD, 1, RETURN);
        Guest.fine(0, NULL, GSTORE, 1, PUSH, 0, RETURN);
        Guest.flow(0, PUSH, 0, GSTORE, 1, PUSH, 0, RETURN);
        Guest.flow(0, GSTORE, 0, PUSH, 0, RETURN);
        Guest.flow(0, RETURN);
    }

    private static void kindsByName() {
        for (int name = 0; name < 16; name++) {
            boolean answersRef = name >= 8;
            boolean takesRef = (name & 4) != 0;
            int[] anInt = {PUSH, 1};
            int[] aRef = {GLOAD, 0};
            int[] argument = takesRef ? aRef : anInt;
            int[] other = takesRef ? anInt : aRef;
            int[] value = answersRef ? aRef : anInt;
            int[] wrong = answersRef ? anInt : aRef;
            // The method's own argument and answer.
            Guest.fine(name, value[0], value[1], RETURN);
            Guest.flow(name, wrong[0], wrong[1], RETURN);
            int answer = answersRef == takesRef ? OK : FLOW;
            Checks.due("LOAD 1 of " + name, Guest.single(name, LOAD, 1, RETURN).link(), answer);
            // A field of that name.
            int in = answersRef ? 8 : 0;
            Guest.fine(in, LOAD, 0, GET, name, RETURN);
            Guest.flow(8 - in, LOAD, 0, GET, name, RETURN);
            Guest.flow(in, PUSH, 0, GET, name, RETURN);
            Guest.flow(in, GET, name, RETURN);
            Guest.fine(0, NULL, value[0], value[1], PUT, name, PUSH, 0, RETURN);
            Guest.flow(0, NULL, wrong[0], wrong[1], PUT, name, PUSH, 0, RETURN);
            Guest.flow(0, PUSH, 0, value[0], value[1], PUT, name, PUSH, 0, RETURN);
            Guest.flow(0, value[0], value[1], PUT, name, PUSH, 0, RETURN);
            // A call of that name.
            Guest.fine(in, NULL, argument[0], argument[1], CALL, name, RETURN);
            Guest.flow(8 - in, NULL, argument[0], argument[1], CALL, name, RETURN);
            Guest.flow(in, NULL, other[0], other[1], CALL, name, RETURN);
            Guest.flow(in, PUSH, 0, argument[0], argument[1], CALL, name, RETURN);
            Guest.flow(in, argument[0], argument[1], CALL, name, RETURN);
        }
    }

    private static void locals() {
        Guest.fine(8, LOAD, 0, RETURN);
        Guest.flow(0, LOAD, 0, RETURN);
        Guest.fine(0, LOAD, 1, RETURN);
        Guest.fine(12, LOAD, 1, RETURN);
        Guest.flow(0, LOAD, 2, POP, PUSH, 0, RETURN);
        Guest.flow(0, LOAD, 3, POP, PUSH, 0, RETURN);
        Guest.fine(0, PUSH, 4, STORE, 2, LOAD, 2, RETURN);
        Guest.fine(8, NULL, STORE, 3, LOAD, 3, RETURN);
        Guest.flow(8, NULL, STORE, 3, LOAD, 2, RETURN);
        Guest.fine(8, NULL, STORE, 1, LOAD, 1, RETURN);
        Guest.flow(0, NULL, STORE, 1, LOAD, 1, RETURN);
        Guest.fine(0, PUSH, 1, STORE, 0, LOAD, 0, RETURN);
        Guest.flow(8, PUSH, 1, STORE, 0, LOAD, 0, RETURN);
    }

    private static void heights() {
        Guest.fine(0, PUSH, 1, PUSH, 1, PUSH, 1, PUSH, 1, PUSH, 1, RETURN);
        Guest.fine(0, PUSH, 1, PUSH, 1, PUSH, 1, NULL, NULL, SAME, RETURN);
        int[] sixth = {PUSH, LOAD, NULL, NEW, GLOAD};
        for (int op : sixth) {
            Guest.flow(0, PUSH, 1, PUSH, 1, PUSH, 1, PUSH, 1, PUSH, 1, op, 0, POP, RETURN);
        }
        Guest.flow(0, PUSH, 1, PUSH, 1, PUSH, 1, PUSH, 1, PUSH, 1, NULL, POP, RETURN);
        // GET, IS and CALL take before they give.
        Guest.fine(0, PUSH, 1, PUSH, 1, PUSH, 1, PUSH, 1, NULL, GET, 1, RETURN);
        Guest.fine(0, PUSH, 1, PUSH, 1, PUSH, 1, PUSH, 1, NULL, IS, 0, RETURN);
        Guest.fine(0, PUSH, 1, PUSH, 1, PUSH, 1, NULL, PUSH, 1, CALL, 1, RETURN);
        // A loop that leaves an entry behind in each round.
        Guest.flow(0, PUSH, 1, JUMP, 0);
        Guest.flow(0, PUSH, 1, POP, PUSH, 1, JUMP, 3);
        Guest.fine(0, PUSH, 1, POP, PUSH, 1, JUMP, 2);
    }

    private static void ends() {
        Guest.flow(0, PUSH, 1);
        Guest.flow(0, PUSH, 1, POP);
        Guest.flow(0, PUSH, 1, JZERO, 0);
        Guest.flow(0, LOAD, 1, JZERO, 6, PUSH, 1, PUSH, 2, POP);
        Guest.fine(0, JUMP, 3, POP, JUMP, 0);
        // What no way reaches has no flow.
        Guest.fine(0, PUSH, 1, RETURN, ADD);
        Guest.fine(0, JUMP, 3, RETURN, PUSH, 1, RETURN, LOAD, 2);
        // An answered way may leave entries behind.
        Guest.fine(0, NULL, PUSH, 1, RETURN);
    }

    private static void waysThatMeet() {
        // Different numbers of entries at byte 6, then the same at byte 10.
        Guest.flow(0, LOAD, 1, JZERO, 6, PUSH, 1, PUSH, 1, RETURN);
        Guest.fine(0, LOAD, 1, JZERO, 8, PUSH, 1, JUMP, 10, PUSH, 2, RETURN);
        Guest.flow(0, PUSH, 1, LOAD, 1, JZERO, 0, RETURN);
        Guest.flow(0, LOAD, 1, POP, PUSH, 1, JUMP, 0);
        // An INT on one way and a REF on the other, not used, then used as either.
        int[] mixed = {LOAD, 1, JZERO, 9, PUSH, 1, JUMP, 11, RETURN, GLOAD, 0};
        Guest.fine(0, with(mixed, POP, PUSH, 1, RETURN));
        Guest.fine(0, with(mixed, STORE, 2, LOAD, 2, POP, PUSH, 1, RETURN));
        Guest.flow(0, with(mixed, RETURN));
        Guest.flow(8, with(mixed, RETURN));
        Guest.flow(0, with(mixed, IS, 0, RETURN));
        Guest.flow(0, with(mixed, PUSH, 1, ADD, RETURN));
        Guest.flow(0, with(mixed, STORE, 2, LOAD, 2, RETURN));
        Guest.flow(0, with(mixed, STORE, 2, NULL, LOAD, 2, PUT, 0, PUSH, 0, RETURN));
        Guest.fine(0, with(mixed, STORE, 2, PUSH, 5, STORE, 2, LOAD, 2, RETURN));
        // Set on one way alone.
        Guest.flow(0, LOAD, 1, JZERO, 8, PUSH, 1, STORE, 2, LOAD, 2, RETURN);
        Guest.fine(0, LOAD, 1, JZERO, 8, PUSH, 1, STORE, 2, LOAD, 1, RETURN);
        Guest.fine(0, LOAD, 1, JZERO, 8, PUSH, 1, STORE, 2, PUSH, 2, STORE, 2, LOAD, 2, RETURN);
        // A later round of a loop brings the other kind, then one that comes over two locals.
        Guest.flow(0, LOAD, 1, POP, LOAD, 1, PUSH, 1, ADD, POP, NULL, STORE, 1, JUMP, 0);
        Guest.flow(0, PUSH, 1, STORE, 2, PUSH, 1, STORE, 3, LOAD, 3, PUSH, 1, ADD, POP,
            LOAD, 2, STORE, 3, NULL, STORE, 2, JUMP, 8);
        Guest.fine(0, PUSH, 1, STORE, 2, PUSH, 1, STORE, 3, LOAD, 3, POP,
            LOAD, 2, STORE, 3, NULL, STORE, 2, JUMP, 8);
        // Both directions count whatever the value is.
        Guest.flow(0, PUSH, 0, JZERO, 5, ADD, PUSH, 1, RETURN);
        Guest.flow(0, PUSH, 1, JZERO, 7, PUSH, 1, RETURN, ADD);
    }

    private static int[] with(int[] first, int... then) {
        int[] all = java.util.Arrays.copyOf(first, first.length + then.length);
        System.arraycopy(then, 0, all, first.length, then.length);
        return all;
    }

    private static void orderOfMethods() {
        GuestClassMachine x = Guest.single(2, LOAD, 1, RETURN);
        Guest.method(x, 3, ADD);
        Guest.method(x, 4, PUSH, 1, 99);
        Checks.due("FLOW in 1, FORM in 2: link", x.link(), FLOW);
        Checks.due("FLOW in 1, FORM in 2: place", x.place(), 32);
        GuestClassMachine y = Guest.single(2, LOAD, 1, RETURN);
        y.type(-1);
        Guest.method(y, 2, PUSH, 1, POP, 99);
        Guest.method(y, 3, ADD);
        Checks.due("FORM in 1, FLOW in 2: link", y.link(), FORM);
        Checks.due("FORM in 1, FLOW in 2: place", y.place(), 32 + 3);
        GuestClassMachine z = new GuestClassMachine();
        z.type(-1);
        for (int name = 0; name < 7; name++) {
            Guest.method(z, name, PUSH, 1, RETURN);
        }
        Guest.method(z, 8, PUSH, 1, RETURN);
        Checks.due("FLOW in 7: link", z.link(), FLOW);
        Checks.due("FLOW in 7: place", z.place(), 7 * 32);
        Checks.due("FLOW in 7: invoke", z.invoke(0, 0, 0), REFUSED);
        // What one method sets is not set in the next one.
        GuestClassMachine w = Guest.single(2, NULL, STORE, 2, PUSH, 1, PUSH, 2, ADD, RETURN);
        Guest.method(w, 3, LOAD, 2, RETURN);
        Checks.due("unset after another's set: link", w.link(), FLOW);
        Checks.due("unset after another's set: place", w.place(), 32);
    }

    private static void laterCodeMendsAFault() {
        GuestClassMachine x = Guest.single(2, LOAD);
        Checks.due("LOAD: link", x.link(), FORM);
        x.code(1);
        Checks.due("LOAD 1: link", x.link(), FLOW);
        Checks.due("LOAD 1: field", x.field(3), true);
        x.code(RETURN);
        Checks.due("LOAD 1, RETURN: link", x.link(), OK);
        Checks.due("LOAD 1, RETURN: place", x.place(), -1);
        Guest.run("LOAD 1, RETURN", x, Guest.call(0, 2, 77), DONE, 77);
    }

    private static void longestMethods() {
        int[] code = new int[32];
        for (int i = 0; i < 28; i += 2) {
            code[i] = JUMP;
            code[i + 1] = i + 2;
        }
        code[28] = NULL;
        code[29] = PUSH;
        code[30] = 1;
        code[31] = RETURN;
        Guest.fine(0, code);
        code[31] = LOAD;
        Guest.form(31, code);
        code[31] = POP;
        Guest.flow(0, code);
        GuestClassMachine x = new GuestClassMachine();
        x.type(-1);
        code[31] = RETURN;
        for (int name = 0; name < 7; name++) {
            Guest.method(x, name, code);
        }
        code[31] = GLOAD;
        Guest.method(x, 7, code);
        Checks.due("the very last byte: link", x.link(), FORM);
        Checks.due("the very last byte: place", x.place(), 255);
    }

    /** Whole methods side by side: no method's check may look at the next one's bytes. */
    private static void fullMethods() {
        int[] code = new int[32];
        for (int i = 0; i < 30; i++) {
            code[i] = i % 2 == 0 ? NULL : POP;
        }
        code[30] = JUMP;
        code[31] = 0;
        GuestClassMachine x = new GuestClassMachine();
        x.type(-1);
        for (int name = 0; name < 8; name++) {
            Guest.method(x, name, code);
        }
        Guest.link(x);
        Guest.run("the last of full methods", x, Guest.call(0, 7, 0), STOPPED, 0);
        x.reset();
        x.type(-1);
        code[31] = 32;
        Guest.method(x, 0, code);
        Checks.due("a jump into the next method: link", x.link(), FORM);
        Checks.due("a jump into the next method: place", x.place(), 30);
        x.reset();
        x.type(-1);
        code[31] = 0;
        for (int name = 0; name < 7; name++) {
            Guest.method(x, name, code);
        }
        code[31] = 32;
        Guest.method(x, 7, code);
        Checks.due("a jump behind all methods: link", x.link(), FORM);
        Checks.due("a jump behind all methods: place", x.place(), 7 * 32 + 30);
    }

    /** What an earlier link found must not matter after a reset or more code. */
    private static void anew() {
        GuestClassMachine x = Guest.single(2, NULL, POP, NULL, POP, PUSH, 1, RETURN);
        Guest.link(x);
        x.reset();
        x.type(-1);
        Guest.method(x, 2, JUMP, 3, PUSH, 1, RETURN);
        Checks.due("other starts: link", x.link(), FORM);
        Checks.due("other starts: place", x.place(), 0);
        x.reset();
        x.type(-1);
        Guest.method(x, 2, PUSH, 1, STORE, 3, PUSH, 1, STORE, 2, LOAD, 1, JZERO, 13, ADD, RETURN);
        Checks.due("flow with waiting bytes: link", x.link(), FLOW);
        x.reset();
        x.type(-1);
        Guest.method(x, 2, JUMP, 14, POP, POP, POP, POP, POP, POP, POP, POP, POP, POP, POP, POP,
            LOAD, 1, RETURN);
        Checks.due("only what ways reach: link", x.link(), OK);
        x.reset();
        x.type(-1);
        Guest.method(x, 2, LOAD, 3, POP, PUSH, 1, RETURN);
        Checks.due("local 3 unset again: link", x.link(), FLOW);
    }
}
