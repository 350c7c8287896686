/** The instructions by name, and short ways to build a guest. */
final class Guest {
    static final int PUSH = 0, LOAD = 1, STORE = 2, POP = 3, ADD = 4, SUB = 5, MUL = 6, DIV = 7;
    static final int LESS = 8, SAME = 9, JUMP = 10, JZERO = 11, NULL = 12, NEW = 13, GET = 14;
    static final int PUT = 15, CALL = 16, IS = 17, RETURN = 18, GLOAD = 19, GSTORE = 20;

    static final int NO_VALUE = -2147483648;

    private Guest() {
    }

    /** Adds a method with its whole code to the newest type. */
    static void method(GuestClassMachine x, int name, int... code) {
        Checks.due("method(" + name + ")", x.method(name), true);
        for (int b : code) {
            Checks.due("code(" + b + ")", x.code(b), true);
        }
    }

    /** A machine with one type without fields and one method, not linked. */
    static GuestClassMachine single(int name, int... code) {
        GuestClassMachine x = new GuestClassMachine();
        x.type(-1);
        method(x, name, code);
        return x;
    }

    static void link(GuestClassMachine x) {
        Checks.due("link()", x.link(), GuestClassMachine.OK);
    }

    /** Invokes and compares the outcome and the result. */
    static void run(String what, GuestClassMachine x, int[] call, int outcome, int result) {
        Checks.due(what + ": invoke", x.invoke(call[0], call[1], call[2]), outcome);
        Checks.due(what + ": result", x.result(), result);
    }

    static int[] call(int type, int name, int arg) {
        return new int[] {type, name, arg};
    }
}
