import java.util.Arrays;

/**
 * Any calls with any arguments, in any state, also long after the 512th: none throws, each ends. What they
 * answer is compared elsewhere, here it only has to be one of the answers that there are.
 */
public final class AnyCallTest implements Codes {
    private static final int MACHINES = 300;
    private static final int CALLS = 6000;
    private static final int[] EDGES = {LEAST, LEAST + 1, -65536, -256, -33, -17, -16, -2, -1, 0, 1, 2, 4, 5, 6,
        7, 8, 9, 15, 16, 17, 31, 32, 33, 127, 128, 255, 256, 257, 65536, GREATEST - 1, GREATEST};

    private static long seed = 1;
    private static final long[] links = new long[4];
    private static final long[] outcomes = new long[4];

    public static void main(String[] args) {
        for (int i = 0; i < MACHINES; i++) {
            GuestClassMachine x = new GuestClassMachine();
            for (int call = 0; call < CALLS; call++) {
                anyCall(x);
            }
        }
        System.out.println("links " + Arrays.toString(links) + ", outcomes " + Arrays.toString(outcomes));
        for (int i = 0; i < 4; i++) {
            Checks.due("link answered " + i, links[i] > 0, true);
            Checks.due("invoke answered " + i, outcomes[i] > 0, true);
        }
        Checks.finish();
    }

    private static int upTo(int bound) {
        seed = seed * 6364136223846793005L + 1442695040888963407L;
        return (int) ((seed >>> 33) % bound);
    }

    private static int any() {
        return upTo(6) == 0 ? EDGES[upTo(EDGES.length)] : upTo(16);
    }

    private static void oneOf(String call, long answer, long least, long most) {
        Checks.due(call + " answers one of " + least + " to " + most + ": " + answer,
            answer >= least && answer <= most, true);
    }

    private static void anyCall(GuestClassMachine x) {
        switch (upTo(24)) {
            case 0:
                oneOf("type", x.type(upTo(2) == 0 ? -1 : any()), -1, 4);
                break;
            case 1:
                x.field(any());
                break;
            case 2:
                addAnything(x);
                break;
            case 3: case 4: case 5: case 6: case 7: case 8:
                addCode(x);
                break;
            case 9:
                int link = x.link();
                oneOf("link", link, 0, 3);
                links[link]++;
                break;
            case 10:
                if (upTo(8) == 0) {
                    x.reset();
                }
                break;
            case 11: case 12: case 13: case 14: case 15: case 16:
                int outcome = x.invoke(upTo(3) == 0 ? any() : upTo(2), upTo(3) == 0 ? any() : upTo(4) * 4, any());
                oneOf("invoke", outcome, 0, 3);
                outcomes[outcome]++;
                break;
            default:
                look(x);
                break;
        }
    }

    /** Seldom, as it mostly spoils the whole for the next link. */
    private static void addAnything(GuestClassMachine x) {
        if (upTo(4) == 0) {
            x.method(any());
        }
        if (upTo(4) == 0) {
            x.code(upTo(4) == 0 ? any() : upTo(21));
        }
    }

    /** A whole method that mostly passes, so that there is something to run: loops, calls, objects kept. */
    private static void addCode(GuestClassMachine x) {
        int name = upTo(4) * 4;
        int[] answer = name < 8 ? Guest.code(PUSH, 5, RETURN) : Guest.code(NULL, RETURN);
        int[][] likely = {{JUMP, 0}, {LOAD, 0, GLOAD, 0, PUT, 8, LOAD, 0, GSTORE, 0, JUMP, 0},
            {PUSH, 1, PUSH, 0, DIV, POP, NULL, STORE, 1, JUMP, 9}, {LOAD, 0, POP, NEW, 0, GSTORE, 1, JUMP, 0},
            answer, Guest.join(Guest.code(NEW, 0, GSTORE, 0), answer), {GLOAD, 0, PUSH, 1, CALL, 0, POP, JUMP, 0},
            {NEW, 1, NULL, CALL, 4, POP, JUMP, 0}, {NEW, 0, GET, 8, STORE, 0, JUMP, 0}};
        if (x.method(name)) {
            for (int b : likely[upTo(likely.length)]) {
                x.code(b);
            }
        }
    }

    private static void look(GuestClassMachine x) {
        switch (upTo(8)) {
            case 0:
                oneOf("place", x.place(), -1, 255);
                break;
            case 1:
                x.result();
                break;
            case 2:
                oneOf("held", x.held(any()), -1, 4);
                break;
            case 3:
                x.peek(any(), any());
                break;
            case 4:
                x.follow(upTo(2), any());
                break;
            case 5:
                x.alike();
                break;
            case 6:
                x.clear(any());
                break;
            default:
                oneOf("reachable", x.reachable(), 0, 10);
                break;
        }
    }
}
