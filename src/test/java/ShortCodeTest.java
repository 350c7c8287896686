import java.util.Arrays;

/**
 * Every way to go on for up to three bytes from a few beginnings, with a fitting end and without, each
 * checked and, where it passes, run as by the model.
 */
public final class ShortCodeTest implements Codes {
    /** One byte more than there are codes, so that a wrong one is among them. */
    private static final int BYTES = GSTORE + 2;
    private static final int MOST = 3;
    /** Of each kind of argument and answer. */
    private static final int[] NAMES = {2, 5, 8, 13};
    private static final int[][] BEGINNINGS = {
        {},
        {LOAD, 0},
        {PUSH, 200},
        {LOAD, 0, PUSH, 1},
        {LOAD, 0, GLOAD, 1},
        {PUSH, 3, PUSH, 0},
        {NEW, 1, GSTORE, 0, NEW, 0, STORE, 2},
        // Two ways that come with an INT and a REF, in an entry or in local 2.
        {PUSH, 0, JZERO, 7, NULL, JUMP, 9, PUSH, 1},
        {PUSH, 1, JZERO, 10, LOAD, 0, STORE, 2, JUMP, 14, PUSH, 1, STORE, 2},
        // Three entries, so that two more are the last.
        {LOAD, 0, PUSH, 1, LOAD, 0},
    };

    private static final int[] links = new int[4];
    private static final int[] outcomes = new int[4];

    public static void main(String[] args) {
        for (int name : NAMES) {
            int[] end = name < 8 ? Guest.code(PUSH, 7, RETURN) : Guest.code(GLOAD, 0, RETURN);
            for (int[] beginning : BEGINNINGS) {
                for (int length = 0; length <= MOST; length++) {
                    allOf(name, beginning, length, end);
                }
            }
        }
        System.out.println("links " + Arrays.toString(links) + ", outcomes " + Arrays.toString(outcomes));
        for (int i = 0; i < 3; i++) {
            Checks.due("link " + i + " was met", links[i] > 0, true);
            Checks.due("outcome " + i + " was met", outcomes[i] > 0, true);
        }
        Checks.finish();
    }

    private static void allOf(int name, int[] beginning, int length, int[] end) {
        int[] code = new int[length];
        boolean more = true;
        while (more) {
            int[] open = Guest.join(beginning, code);
            compare(name, open);
            compare(name, Guest.join(open, end));
            more = next(code);
        }
    }

    /** Counts on; false after the last. */
    private static boolean next(int[] code) {
        for (int i = code.length - 1; i >= 0; i--) {
            code[i]++;
            if (code[i] < BYTES) {
                return true;
            }
            code[i] = 0;
        }
        return false;
    }

    private static void compare(int name, int[] code) {
        GuestClassMachine x = new GuestClassMachine();
        Model model = new Model();
        x.type(-1);
        model.type(-1);
        x.field(0);
        model.field(0);
        x.field(8);
        model.field(8);
        x.type(0);
        model.type(0);
        x.method(name);
        model.method(name);
        for (int b : code) {
            x.code(b);
            model.code(b);
        }
        int link = model.link();
        links[link]++;
        same(code, "link", x.link(), link);
        same(code, "place", x.place(), model.place());
        for (int arg = 0; arg < 2 && link == OK; arg++) {
            int outcome = model.invoke(1, name, arg);
            outcomes[outcome]++;
            same(code, "invoke", x.invoke(1, name, arg), outcome);
            look(code, x, model);
        }
    }

    private static void look(int[] code, GuestClassMachine x, Model model) {
        same(code, "result", x.result(), model.result());
        same(code, "reachable", x.reachable(), model.reachable());
        same(code, "alike", x.alike() ? 1 : 0, model.alike() ? 1 : 0);
        for (int g = 0; g < 2; g++) {
            same(code, "held", x.held(g), model.held(g));
            same(code, "peek of 0", x.peek(g, 0), model.peek(g, 0));
            same(code, "peek of 8", x.peek(g, 8), model.peek(g, 8));
        }
    }

    /** The text is made only where it is printed: there are millions of answers. */
    private static void same(int[] code, String call, int got, int due) {
        Checks.due(got == due ? call : call + " with " + Arrays.toString(code), got, due);
    }
}
