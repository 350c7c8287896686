/** Short ways to build a guest and to look at how it is checked and run. */
final class Guest implements Codes {
    private Guest() {
    }

    /** Adds a method with its whole code to the newest type. */
    static void method(GuestClassMachine x, int name, int... code) {
        Checks.due("method(" + name + ")", x.method(name), true);
        write(x, code);
    }

    static void write(GuestClassMachine x, int... code) {
        for (int b : code) {
            Checks.due("code(" + b + ")", x.code(b), true);
        }
    }

    /** A machine with one type without fields and one method, not linked. */
    static GuestClassMachine single(int name, int... code) {
        GuestClassMachine x = new GuestClassMachine();
        x.type(-1);
        method(x, name, code);
        return x;
    }

    static void link(GuestClassMachine x) {
        Checks.due("link()", x.link(), OK);
    }

    /** Links and compares the answer and the place. */
    static void links(String what, GuestClassMachine x, int answer, int place) {
        Checks.due(what + ": link", x.link(), answer);
        Checks.due(what + ": place", x.place(), place);
    }

    /** A single method that is refused for its form, the fault being at that byte. */
    static void form(int fault, int... code) {
        checked(2, FORM, fault, code);
    }

    /** A single method of that name that is refused for its flow. */
    static void flow(int name, int... code) {
        checked(name, FLOW, 0, code);
    }

    /** A single method of that name that passes. */
    static void fine(int name, int... code) {
        checked(name, OK, -1, code);
    }

    static void checked(int name, int answer, int place, int... code) {
        String what = "method " + name + " with " + java.util.Arrays.toString(code);
        GuestClassMachine x = single(name, code);
        links(what, x, answer, place);
        links(what + " again", x, answer, place);
        if (answer != OK) {
            Checks.due(what + ": invoke", x.invoke(0, name, 0), REFUSED);
        }
    }

    /** Links and invokes a single method with one argument. */
    static void gives(int name, int arg, int outcome, int result, int... code) {
        GuestClassMachine x = single(name, code);
        link(x);
        String what = java.util.Arrays.toString(code) + " with " + arg;
        run(what, x, call(0, name, arg), outcome, result);
    }

    /** Invokes and compares the outcome and the result. */
    static void run(String what, GuestClassMachine x, int[] call, int outcome, int result) {
        Checks.due(what + ": invoke", x.invoke(call[0], call[1], call[2]), outcome);
        Checks.due(what + ": result", x.result(), result);
    }

    static int[] call(int type, int name, int arg) {
        return new int[] {type, name, arg};
    }

    /** One code after the other. */
    static int[] join(int[]... parts) {
        return java.util.Arrays.stream(parts).flatMapToInt(java.util.Arrays::stream).toArray();
    }

    static int[] code(int... bytes) {
        return bytes;
    }
}
