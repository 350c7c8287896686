/** The sentences of "Terms" on the form of a method and the place of a fault; both sides of each edge. */
public final class FormTest implements Codes {
    private static final int[] WITH_BYTE = {PUSH, LOAD, STORE, JUMP, JZERO, NEW, GET, PUT, CALL, IS, GLOAD, GSTORE};
    private static final int[] ALONE = {POP, ADD, SUB, MUL, DIV, LESS, SAME, NULL, RETURN};
    /** Answers its argument; what comes after it is reached by no way, but has its form. */
    private static final int[] ANSWER = {LOAD, 1, RETURN};

    public static void main(String[] args) {
        noCode();
        byteMissing();
        byteMissingAtTheEndOfAFullMethod();
        operands();
        typeNumbers();
        jumpTargets();
        jumpTargetsOfAFullMethod();
        otherFaultsBeforeJumps();
        firstFaultDecides();
        withoutCode();
        placesOfAllMethods();
        Checks.finish();
    }

    private static void noCode() {
        Checks.sentence("a byte that is no code 0..20");
        for (int op : ALONE) {
            Guest.fine(2, Guest.join(ANSWER, Guest.code(op)));
        }
        for (int op : WITH_BYTE) {
            Guest.fine(2, Guest.join(ANSWER, Guest.code(op, 0)));
        }
        for (int op = 21; op < 256; op++) {
            Guest.form(0, op);
            Guest.form(0, op, 0, LOAD, 1, RETURN);
            Guest.form(3, Guest.join(ANSWER, Guest.code(op)));
            Guest.form(4, Guest.join(ANSWER, Guest.code(POP, op, POP)));
            // After an instruction that has it, the same byte is no code.
            Guest.fine(2, Guest.join(ANSWER, Guest.code(PUSH, op, POP)));
        }
    }

    private static void byteMissing() {
        Checks.sentence("the byte b missing");
        for (int op : WITH_BYTE) {
            Guest.form(0, op);
            Guest.form(3, Guest.join(ANSWER, Guest.code(op)));
            Guest.form(5, Guest.join(ANSWER, Guest.code(op, 0, op)));
            Guest.fine(2, Guest.join(ANSWER, Guest.code(op, 0, op, 0)));
        }
    }

    private static void byteMissingAtTheEndOfAFullMethod() {
        Checks.sentence("the byte b missing");
        for (int op : WITH_BYTE) {
            int[] code = full();
            code[31] = op;
            // The next method's first byte would do as b.
            GuestClassMachine x = Guest.single(2, code);
            Guest.method(x, 3, PUSH, 0, RETURN);
            Guest.links("full method ends with " + op, x, FORM, 31);
            code[30] = op;
            code[31] = 0;
            GuestClassMachine y = Guest.single(2, code);
            Guest.method(y, 3, PUSH, 0, RETURN);
            Guest.links("full method ends with " + op + " 0", y, OK, -1);
        }
    }

    /** 32 bytes: an answer, then what no way reaches. */
    private static int[] full() {
        int[] code = new int[32];
        java.util.Arrays.fill(code, POP);
        System.arraycopy(ANSWER, 0, code, 0, ANSWER.length);
        return code;
    }

    private static void operands() {
        Checks.sentence("b above 3 for LOAD and STORE, above 15 for GET, PUT and CALL, above 1 for GLOAD and GSTORE");
        greatest(LOAD, 3);
        greatest(STORE, 3);
        greatest(GET, 15);
        greatest(PUT, 15);
        greatest(CALL, 15);
        greatest(GLOAD, 1);
        greatest(GSTORE, 1);
        Checks.sentence("some have one more byte b after it (0..255)");
        greatest(PUSH, 255);
    }

    private static void greatest(int op, int greatest) {
        for (int b = 0; b < 256; b++) {
            boolean fits = b <= greatest;
            Guest.checked(2, fits ? OK : FORM, fits ? -1 : 3, Guest.join(ANSWER, Guest.code(op, b)));
        }
    }

    private static void typeNumbers() {
        Checks.sentence("no type's number for NEW and IS");
        int[] ops = {NEW, IS};
        for (int op : ops) {
            for (int types = 1; types <= 5; types++) {
                for (int b = 0; b < 256; b++) {
                    // The method is of the first type: those that come after it count too.
                    GuestClassMachine x = Guest.single(2, Guest.join(ANSWER, Guest.code(op, b)));
                    for (int type = 1; type < types; type++) {
                        x.type(type % 2 == 0 ? -1 : type - 1);
                    }
                    boolean fits = b < types;
                    Guest.links(op + " " + b + " with " + types, x, fits ? OK : FORM, fits ? -1 : 3);
                }
            }
        }
    }

    private static void jumpTargets() {
        Checks.sentence("a JUMP or JZERO whose b isn't the first byte of an instruction");
        int[] ops = {JUMP, JZERO};
        // First bytes are 0, 2, 3, 5 (the jump itself), 7, 8 and 10.
        boolean[] first = {true, false, true, true, false, true, false, true, true, false, true};
        for (int op : ops) {
            for (int b = 0; b < 256; b++) {
                boolean fits = b < first.length && first[b];
                int[] code = {LOAD, 1, RETURN, PUSH, 0, op, b, NULL, PUSH, 0, RETURN};
                Guest.checked(2, fits ? OK : FORM, fits ? -1 : 5, code);
            }
        }
    }

    private static void jumpTargetsOfAFullMethod() {
        Checks.sentence("a JUMP or JZERO whose b isn't the first byte of an instruction");
        int[] ops = {JUMP, JZERO};
        for (int op : ops) {
            for (int b = 0; b < 256; b++) {
                int[] code = full();
                code[3] = op;
                code[4] = b;
                boolean fits = b < 32 && b != 1 && b != 4;
                // The methods around it have first bytes everywhere.
                GuestClassMachine x = Guest.single(0, full());
                Guest.method(x, 2, code);
                Guest.method(x, 3, full());
                Guest.links("full method, " + op + " to " + b, x, fits ? OK : FORM, fits ? -1 : 32 + 3);
            }
        }
    }

    private static void otherFaultsBeforeJumps() {
        Checks.sentence("if there is none of these in the whole method: a JUMP or JZERO");
        int[] ops = {JUMP, JZERO};
        for (int op : ops) {
            Guest.form(0, op, 1, LOAD, 1, RETURN);
            Guest.form(5, op, 1, LOAD, 1, RETURN, 21);
            Guest.form(5, op, 1, LOAD, 1, RETURN, PUSH);
            Guest.form(5, op, 1, LOAD, 1, RETURN, LOAD, 4);
            Guest.form(5, op, 1, LOAD, 1, RETURN, GET, 16);
            Guest.form(5, op, 1, LOAD, 1, RETURN, GLOAD, 2);
            Guest.form(5, op, 1, LOAD, 1, RETURN, NEW, 1);
        }
    }

    private static void firstFaultDecides() {
        Checks.sentence("The place of a fault is the first byte of the first instruction that has it.");
        int[][] faults = {{21}, {LOAD, 4}, {STORE, 255}, {GET, 16}, {PUT, 16}, {CALL, 16}, {GLOAD, 2},
            {GSTORE, 2}, {NEW, 1}, {IS, 1}};
        for (int[] one : faults) {
            for (int[] other : faults) {
                Guest.form(3, Guest.join(ANSWER, one, other));
                Guest.form(4, Guest.join(ANSWER, Guest.code(POP), one, ANSWER, other));
            }
        }
        Guest.form(3, LOAD, 1, RETURN, JUMP, 1, JZERO, 1);
        Guest.form(5, LOAD, 1, RETURN, JUMP, 0, JZERO, 1, JUMP, 1);
        Guest.form(7, LOAD, 1, RETURN, JUMP, 0, JZERO, 3, JUMP, 1);
        // A fault of form comes before every fault of flow in the same method.
        Guest.form(1, ADD, 21);
        Guest.form(3, POP, NULL, RETURN, JUMP, 9);
    }

    private static void withoutCode() {
        Checks.sentence("A method without code has a fault at 0.");
        GuestClassMachine x = new GuestClassMachine();
        x.type(-1);
        for (int m = 0; m < 8; m++) {
            x.method(m);
            Guest.links("method " + m + " without code", x, FORM, m * 32);
            Checks.due("invoke", x.invoke(0, m, 0), REFUSED);
            Guest.write(x, PUSH, 0, RETURN);
        }
        Guest.links("all have code", x, OK, -1);
    }

    private static void placesOfAllMethods() {
        Checks.sentence("method * 32 + the place of the fault after FORM");
        for (int m = 0; m < 8; m++) {
            for (int at = 0; at < 32; at++) {
                GuestClassMachine x = new GuestClassMachine();
                x.type(-1);
                for (int before = 0; before < m; before++) {
                    Guest.method(x, before, PUSH, 0, RETURN);
                }
                int[] code = full();
                code[at == 1 ? 0 : at] = 200;
                Guest.method(x, m, code);
                Guest.links("method " + m + " at " + at, x, FORM, m * 32 + (at == 1 ? 0 : at));
            }
        }
    }
}
