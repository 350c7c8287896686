import java.util.ArrayList;
import java.util.List;

/** Long runs of made-up calls, each answer compared with the model's. The runs are always the same. */
public final class ModelTest {
    private static final int RUNS = 6000;
    private static final int CALLS = 512;

    private static long seed;
    private static GuestClassMachine x;
    private static Model model;
    private static List<String> calls;
    private static List<int[]> made;
    private static final int[] links = new int[4];
    private static final int[] outcomes = new int[4];
    private static final int[] codes = new int[7];

    public static void main(String[] args) {
        for (int run = 0; run < RUNS; run++) {
            seed = run * 7919L + 1;
            x = new GuestClassMachine();
            model = new Model();
            calls = new ArrayList<>();
            while (calls.size() < CALLS) {
                build();
                same("link()", x.link(), model.link());
                use();
                if (upTo(8) != 0 && calls.size() < CALLS) {
                    calls.add("reset()");
                    x.reset();
                    model.reset();
                }
            }
        }
        everythingWasMet();
        Checks.finish();
    }

    /** A run that never links, or never throws some code, would compare nothing. */
    private static void everythingWasMet() {
        String met = "links " + java.util.Arrays.toString(links)
            + ", outcomes " + java.util.Arrays.toString(outcomes)
            + ", thrown " + java.util.Arrays.toString(codes);
        System.out.println(met);
        for (int i = 0; i < 4; i++) {
            Checks.due("link " + i + " was met", links[i] > 0, true);
            Checks.due("outcome " + i + " was met", outcomes[i] > 0, true);
        }
        for (int i = 1; i < 7; i++) {
            Checks.due("code " + i + " was met", codes[i] > 0, true);
        }
    }

    private static int upTo(int bound) {
        seed = seed * 6364136223846793005L + 1442695040888963407L;
        return (int) ((seed >>> 33) % bound);
    }

    private static void same(String call, int got, int due) {
        calls.add(call);
        if (calls.size() > CALLS) {
            return;
        }
        if (got != due) {
            System.out.println("after " + calls);
        }
        Checks.due(call, got, due);
        if (call.startsWith("link")) {
            links[due]++;
        }
        if (call.startsWith("invoke")) {
            outcomes[due]++;
            codes[due == GuestClassMachine.THROWN ? model.result() : 0]++;
        }
    }

    private static void same(String call, boolean got, boolean due) {
        same(call, got ? 1 : 0, due ? 1 : 0);
    }

    private static int sometimesOutside(int bound) {
        return upTo(30) == 0 ? upTo(2 * bound + 10) - bound : upTo(bound);
    }

    private static void build() {
        int types = upTo(12) == 0 ? 0 : 1 + upTo(6);
        int fields = upTo(5);
        boolean holds = upTo(4) != 0;
        made = new ArrayList<>();
        for (int t = 0; t < types; t++) {
            int above = upTo(3) == 0 ? -1 : sometimesOutside(t + 1) - 1;
            same("type(" + above + ")", x.type(above), model.type(above));
            for (int i = 0; i < fields; i++) {
                int name = upTo(2) == 0 ? someName() : sometimesOutside(16);
                same("field(" + name + ")", x.field(name), model.field(name));
            }
            if (t == 0 && holds) {
                addHolder();
            }
            int methods = upTo(4);
            for (int i = 0; i < methods; i++) {
                int name = someName();
                if (addMethod(t, name)) {
                    int[] code = upTo(40) == 0 ? anyBytes() : likelyCode(name, types);
                    write(code);
                }
            }
        }
    }

    /** A method that puts its receiver in front of the objects in global 0, so that the heap fills. */
    private static void addHolder() {
        same("field(8)", x.field(8), model.field(8));
        if (addMethod(0, 2)) {
            write(1, 0, 19, 0, 15, 8, 1, 0, 20, 0, 0, 7, 18);
        }
    }

    private static boolean addMethod(int type, int name) {
        boolean added = model.method(name);
        same("method(" + name + ")", x.method(name), added);
        if (added) {
            made.add(new int[] {type, name});
        }
        return added;
    }

    /** Few names, so that fields and methods are often there. */
    private static int someName() {
        int[] names = {0, 2, 5, 8, 9, 13};
        return upTo(20) == 0 ? sometimesOutside(16) : names[upTo(names.length)];
    }

    private static void write(int... code) {
        for (int b : code) {
            same("code(" + b + ")", x.code(b), model.code(b));
        }
    }

    private static int[] anyBytes() {
        int[] code = new int[upTo(6)];
        for (int i = 0; i < code.length; i++) {
            code[i] = upTo(3) == 0 ? sometimesOutside(256) : upTo(21);
        }
        return code;
    }

    /**
     * Instructions whose needs are met on the way straight on, with jumps strewn in between; where
     * the stack is the same at a jump and its target, the whole often passes.
     */
    private static int[] likelyCode(int name, int types) {
        List<Integer> code = new ArrayList<>();
        List<Integer> starts = new ArrayList<>();
        List<Integer> heights = new ArrayList<>();
        List<Integer> open = new ArrayList<>();
        List<Integer> openHeights = new ArrayList<>();
        StringBuilder state = new StringBuilder("R" + ((name & 4) != 0 ? 'R' : 'I') + "UU");
        int length = 4 + upTo(24);
        while (code.size() < length) {
            int height = state.length();
            starts.add(code.size());
            heights.add(height);
            for (int i = 0; i < open.size(); i++) {
                if (openHeights.get(i) == height && code.get(open.get(i)) == 0 && upTo(2) == 0) {
                    code.set(open.get(i), code.size());
                }
            }
            if (upTo(6) == 0) {
                strewJump(code, starts, heights, open, openHeights, state);
            } else {
                strewPlain(code, state, types);
            }
        }
        close(code, starts, heights, open, openHeights, state, name);
        return code.stream().mapToInt(Integer::intValue).toArray();
    }

    private static void strewJump(List<Integer> code, List<Integer> starts, List<Integer> heights,
            List<Integer> open, List<Integer> openHeights, StringBuilder state) {
        boolean onZero = top(state) == 'I';
        if (!onZero && upTo(3) != 0) {
            return;
        }
        int height = state.length() - (onZero ? 1 : 0);
        if (onZero) {
            state.setLength(height);
        }
        code.add(onZero ? 11 : 10);
        if (upTo(2) == 0) {
            int i = upTo(starts.size());
            if (heights.get(i) == height || upTo(20) == 0) {
                code.add(starts.get(i));
                return;
            }
        }
        open.add(code.size());
        openHeights.add(height);
        code.add(0);
    }

    private static char top(StringBuilder state) {
        return state.length() > 4 ? state.charAt(state.length() - 1) : 'U';
    }

    private static char second(StringBuilder state) {
        return state.length() > 5 ? state.charAt(state.length() - 2) : 'U';
    }

    private static void add(List<Integer> code, StringBuilder state, int taken, String given, int... bytes) {
        state.setLength(state.length() - taken);
        state.append(given);
        for (int b : bytes) {
            code.add(b);
        }
    }

    private static void strewPlain(List<Integer> code, StringBuilder state, int types) {
        char top = top(state);
        char second = second(state);
        int name = someName() & 15;
        String kind = name < 8 ? "I" : "R";
        boolean takesRef = (name & 4) != 0;
        int choice = upTo(24);
        if (choice < 4 && top == 'I' && second == 'I') {
            add(code, state, 2, "I", 4 + upTo(5));
        } else if (choice < 6 && top == 'R' && second == 'R') {
            add(code, state, 2, "I", 9);
        } else if (choice < 10 && second == 'R' && top == (takesRef ? 'R' : 'I')) {
            add(code, state, 2, kind, 16, name);
        } else if (choice < 14 && second == 'R' && top == kind.charAt(0)) {
            add(code, state, 2, "", 15, name);
        } else if (choice < 16 && top == 'R') {
            strewOnRef(code, state, name, types);
        } else if (choice < 18 && top != 'U') {
            int local = upTo(4);
            state.setCharAt(local, top);
            add(code, state, 1, "", 2, local);
        } else if (choice < 19 && top != 'U') {
            add(code, state, 1, "", 3);
        } else if (state.length() < 9) {
            strewGiving(code, state, types);
        }
    }

    private static void strewOnRef(List<Integer> code, StringBuilder state, int name, int types) {
        int choice = upTo(6);
        if (choice == 0) {
            add(code, state, 1, "I", 17, sometimesOutside(types) & 255);
        } else if (choice < 4) {
            add(code, state, 1, name < 8 ? "I" : "R", 14, name);
        } else {
            add(code, state, 1, "", 20, upTo(2));
        }
    }

    private static void strewGiving(List<Integer> code, StringBuilder state, int types) {
        int local = upTo(4);
        int choice = upTo(12);
        if (choice < 5 && (state.charAt(local) != 'U' || upTo(30) == 0)) {
            add(code, state, 0, "" + state.charAt(local), 1, local);
        } else if (choice < 7) {
            add(code, state, 0, "I", 0, upTo(3) == 0 ? upTo(256) : upTo(3));
        } else if (choice < 8) {
            add(code, state, 0, "R", 12);
        } else if (choice < 10) {
            add(code, state, 0, "R", 19, upTo(2));
        } else {
            add(code, state, 0, "R", 13, upTo(60) == 0 ? types : upTo(types));
        }
    }

    /** Ends with an answer of the due kind, and points what is open to some byte of its height. */
    private static void close(List<Integer> code, List<Integer> starts, List<Integer> heights,
            List<Integer> open, List<Integer> openHeights, StringBuilder state, int name) {
        int end = code.size();
        starts.add(end);
        heights.add(state.length());
        if (state.length() == 9) {
            code.add(3);
        }
        if (name < 8) {
            code.add(0);
            code.add(upTo(256));
        } else {
            code.add(19);
            code.add(upTo(2));
        }
        code.add(18);
        for (int i = 0; i < open.size(); i++) {
            if (code.get(open.get(i)) == 0) {
                code.set(open.get(i), likelyTarget(starts, heights, openHeights.get(i)));
            }
        }
    }

    private static int likelyTarget(List<Integer> starts, List<Integer> heights, int height) {
        for (int tries = 0; tries < 40; tries++) {
            int i = upTo(starts.size());
            if (heights.get(i) == height || upTo(60) == 0) {
                return starts.get(i);
            }
        }
        return upTo(33);
    }

    private static void use() {
        same("place()", x.place(), model.place());
        int uses = 10 + upTo(60);
        int[] args = {0, 1, 2, 3, -1, 100, -2147483648, 2147483647};
        for (int i = 0; i < uses && calls.size() < CALLS; i++) {
            int g = sometimesOutside(2);
            int name = someName();
            if (upTo(2) == 0) {
                boolean any = made.isEmpty() || upTo(8) == 0;
                int[] one = any ? new int[] {sometimesOutside(5), name} : made.get(upTo(made.size()));
                int arg = args[upTo(args.length)];
                String call = "invoke(" + one[0] + ", " + one[1] + ", " + arg + ")";
                same(call, x.invoke(one[0], one[1], arg), model.invoke(one[0], one[1], arg));
                same("result()", x.result(), model.result());
            } else {
                look(g, name);
            }
        }
    }

    private static void look(int g, int name) {
        switch (upTo(20)) {
            case 0:
                if (upTo(4) != 0) {
                    break;
                }
                same("clear(" + g + ")", x.clear(g), model.clear(g));
                break;
            case 1:
                same("follow(" + g + ", " + name + ")", x.follow(g, name), model.follow(g, name));
                break;
            case 2: case 3: case 4:
                same("held(" + g + ")", x.held(g), model.held(g));
                break;
            case 5: case 6:
                same("alike()", x.alike(), model.alike());
                break;
            case 7:
                same("link()", x.link(), model.link());
                break;
            case 8:
                same("code(1)", x.code(1), model.code(1));
                break;
            case 9:
                same("place()", x.place(), model.place());
                break;
            case 10: case 11: case 12: case 13:
                same("reachable()", x.reachable(), model.reachable());
                break;
            default:
                same("peek(" + g + ", " + name + ")", x.peek(g, name), model.peek(g, name));
                break;
        }
    }
}
