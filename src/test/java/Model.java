import java.util.ArrayDeque;
import java.util.ArrayList;
import java.util.Collections;
import java.util.Deque;
import java.util.HashMap;
import java.util.HashSet;
import java.util.IdentityHashMap;
import java.util.List;
import java.util.Map;
import java.util.Set;

/**
 * The document once more, as plainly as the whole of Java allows: every way of a method is gone by
 * itself, objects are Java's, nothing is limited by arrays. The class is compared with it.
 */
final class Model {
    private static final class Type {
        int number;
        Type above;
        final Set<Integer> fields = new HashSet<>();
        final Map<Integer, Method> methods = new HashMap<>();

        boolean has(int name) {
            return fields.contains(name) || above != null && above.has(name);
        }

        int size() {
            return fields.size() + (above == null ? 0 : above.size());
        }

        Method find(int name) {
            if (methods.containsKey(name)) {
                return methods.get(name);
            }
            return above == null ? null : above.find(name);
        }

        boolean isOrIsBelow(Type other) {
            return this == other || above != null && above.isOrIsBelow(other);
        }
    }

    private static final class Method {
        int name;
        final List<Integer> code = new ArrayList<>();
        /** For each byte the states in which ways reach it: a letter for each local, then each entry. */
        final Map<Integer, Set<String>> ways = new HashMap<>();

        boolean sure(int at, int slot) {
            for (String state : ways.get(at)) {
                if (state.charAt(slot) != 'R') {
                    return false;
                }
            }
            return true;
        }
    }

    private static final class Thing {
        final Type type;
        final Map<Integer, Object> values = new HashMap<>();

        Thing(Type type) {
            this.type = type;
        }
    }

    private static final class Frame {
        Method method;
        int at = 0;
        final Object[] locals = new Object[4];
        final List<Object> stack = new ArrayList<>();

        Object pop() {
            return stack.remove(stack.size() - 1);
        }

        int popInt() {
            return (Integer) pop();
        }
    }

    private static final class Ended extends Exception {
        private static final long serialVersionUID = 1L;
        final int outcome;
        final int code;

        Ended(int outcome, int code) {
            this.outcome = outcome;
            this.code = code;
        }
    }

    private List<Type> types = new ArrayList<>();
    private List<Method> methods = new ArrayList<>();
    private boolean linked = false;
    private int place = -1;
    private int result = 0;
    private final Thing[] globals = new Thing[2];
    private final List<Frame> frames = new ArrayList<>();
    private int ticks = 0;

    int type(int above) {
        if (linked || types.size() >= 5 || above < -1 || above >= types.size()) {
            return -1;
        }
        Type made = new Type();
        made.number = types.size();
        made.above = above == -1 ? null : types.get(above);
        types.add(made);
        return made.number;
    }

    boolean field(int name) {
        if (linked || types.isEmpty() || name < 0 || name > 15) {
            return false;
        }
        Type newest = types.get(types.size() - 1);
        return !newest.has(name) && newest.size() < 4 && newest.fields.add(name);
    }

    boolean method(int name) {
        if (linked || types.isEmpty() || name < 0 || name > 15 || methods.size() >= 8) {
            return false;
        }
        Type newest = types.get(types.size() - 1);
        if (newest.methods.containsKey(name)) {
            return false;
        }
        Method made = new Method();
        made.name = name;
        newest.methods.put(name, made);
        methods.add(made);
        return true;
    }

    boolean code(int b) {
        if (linked || methods.isEmpty() || b < 0 || b > 255) {
            return false;
        }
        List<Integer> code = methods.get(methods.size() - 1).code;
        return code.size() < 32 && code.add(b);
    }

    int link() {
        if (linked) {
            return 0;
        }
        place = -1;
        if (types.isEmpty()) {
            return 3;
        }
        for (int m = 0; m < methods.size(); m++) {
            int fault = formFault(methods.get(m).code);
            if (fault >= 0) {
                place = m * 32 + fault;
                return 1;
            }
            if (!goAllWays(methods.get(m))) {
                place = m * 32;
                return 2;
            }
        }
        linked = true;
        return 0;
    }

    int place() {
        return place;
    }

    void reset() {
        types = new ArrayList<>();
        methods = new ArrayList<>();
        linked = false;
        globals[0] = null;
        globals[1] = null;
        result = 0;
    }

    int invoke(int type, int name, int arg) {
        if (!linked || type < 0 || type >= types.size() || name < 0 || name > 15) {
            return 3;
        }
        Method method = types.get(type).find(name);
        if (method == null) {
            return 3;
        }
        frames.clear();
        ticks = 100;
        try {
            Thing receiver = make(types.get(type));
            Object answer = execute(method, receiver, (name & 4) != 0 ? null : (Object) arg);
            result = name < 8 ? (Integer) answer : number((Thing) answer);
            return 0;
        } catch (Ended ended) {
            result = ended.code;
            return ended.outcome;
        } finally {
            frames.clear();
        }
    }

    int result() {
        return result;
    }

    int held(int g) {
        return g < 0 || g > 1 ? -1 : number(globals[g]);
    }

    int peek(int g, int name) {
        if (g < 0 || g > 1 || globals[g] == null || !globals[g].type.has(name)) {
            return -2147483648;
        }
        Object value = globals[g].values.get(name);
        return name < 8 ? (Integer) value : number((Thing) value);
    }

    boolean follow(int g, int name) {
        if (g < 0 || g > 1 || globals[g] == null || name < 8 || !globals[g].type.has(name)) {
            return false;
        }
        globals[g] = (Thing) globals[g].values.get(name);
        return true;
    }

    boolean alike() {
        return globals[0] == globals[1] && globals[0] != null;
    }

    boolean clear(int g) {
        if (g < 0 || g > 1) {
            return false;
        }
        globals[g] = null;
        return true;
    }

    int reachable() {
        Set<Thing> seen = Collections.newSetFromMap(new IdentityHashMap<>());
        for (Thing global : globals) {
            reach(global, seen);
        }
        for (Frame frame : frames) {
            for (int i = 0; i < 4; i++) {
                if (frame.method.sure(frame.at, i)) {
                    reach((Thing) frame.locals[i], seen);
                }
            }
            for (int i = 0; i < frame.stack.size(); i++) {
                if (frame.method.sure(frame.at, 4 + i)) {
                    reach((Thing) frame.stack.get(i), seen);
                }
            }
        }
        return seen.size();
    }

    private static void reach(Thing thing, Set<Thing> seen) {
        if (thing != null && seen.add(thing)) {
            for (Object value : thing.values.values()) {
                if (value instanceof Thing) {
                    reach((Thing) value, seen);
                }
            }
        }
    }

    private static int number(Thing thing) {
        return thing == null ? -1 : thing.type.number;
    }

    private static boolean hasByte(int op) {
        return List.of(0, 1, 2, 10, 11, 13, 14, 15, 16, 17, 19, 20).contains(op);
    }

    private int formFault(List<Integer> code) {
        if (code.isEmpty()) {
            return 0;
        }
        Set<Integer> starts = new HashSet<>();
        int at = 0;
        while (at < code.size()) {
            int op = code.get(at);
            starts.add(at);
            if (op > 20 || hasByte(op) && at + 1 >= code.size()) {
                return at;
            }
            int b = hasByte(op) ? code.get(at + 1) : 0;
            boolean local = (op == 1 || op == 2) && b > 3;
            boolean name = (op == 14 || op == 15 || op == 16) && b > 15;
            boolean global = (op == 19 || op == 20) && b > 1;
            boolean type = (op == 13 || op == 17) && b >= types.size();
            if (local || name || global || type) {
                return at;
            }
            at += hasByte(op) ? 2 : 1;
        }
        List<Integer> inOrder = new ArrayList<>(starts);
        Collections.sort(inOrder);
        for (int start : inOrder) {
            boolean jumps = code.get(start) == 10 || code.get(start) == 11;
            if (jumps && !starts.contains(code.get(start + 1))) {
                return start;
            }
        }
        return -1;
    }

    private static boolean goAllWays(Method method) {
        method.ways.clear();
        Deque<Integer> ats = new ArrayDeque<>();
        Deque<String> states = new ArrayDeque<>();
        ats.add(0);
        states.add("R" + ((method.name & 4) != 0 ? 'R' : 'I') + "UU");
        while (!ats.isEmpty()) {
            int at = ats.remove();
            String state = states.remove();
            if (at >= method.code.size()) {
                return false;
            }
            Set<String> there = method.ways.computeIfAbsent(at, key -> new HashSet<>());
            if (!there.isEmpty() && there.iterator().next().length() != state.length()) {
                return false;
            }
            if (!there.add(state)) {
                continue;
            }
            int op = method.code.get(at);
            int b = hasByte(op) ? method.code.get(at + 1) : 0;
            String after = after(state, op, b, method);
            if (after == null) {
                return false;
            }
            if (op == 10 || op == 11) {
                ats.add(b);
                states.add(after);
            }
            if (op != 10 && op != 18) {
                ats.add(at + (hasByte(op) ? 2 : 1));
                states.add(after);
            }
        }
        return true;
    }

    /** The state after an instruction, null if its needs are not met. */
    private static String after(String state, int op, int b, Method method) {
        char field = b < 8 ? 'I' : 'R';
        switch (op) {
            case 0:
                return effect(state, "", "I");
            case 1:
                return state.charAt(b) == 'U' ? null : effect(state, "", "" + state.charAt(b));
            case 2: {
                String rest = effect(state, "v", "");
                if (rest == null) {
                    return null;
                }
                return rest.substring(0, b) + state.charAt(state.length() - 1) + rest.substring(b + 1);
            }
            case 3:
                return effect(state, "v", "");
            case 4: case 5: case 6: case 7: case 8:
                return effect(state, "II", "I");
            case 9:
                return effect(state, "RR", "I");
            case 10:
                return state;
            case 11:
                return effect(state, "I", "");
            case 12: case 13: case 19:
                return effect(state, "", "R");
            case 14:
                return effect(state, "R", "" + field);
            case 15:
                return effect(state, "R" + field, "");
            case 16:
                return effect(state, "R" + ((b & 4) != 0 ? 'R' : 'I'), "" + field);
            case 17:
                return effect(state, "R", "I");
            case 18:
                return effect(state, method.name < 8 ? "I" : "R", "");
            default:
                return effect(state, "R", "");
        }
    }

    private static String effect(String state, String taken, String given) {
        int left = state.length() - taken.length();
        if (left < 4) {
            return null;
        }
        for (int i = 0; i < taken.length(); i++) {
            if (taken.charAt(i) != 'v' && taken.charAt(i) != state.charAt(left + i)) {
                return null;
            }
        }
        String after = state.substring(0, left) + given;
        return after.length() > 4 + 5 ? null : after;
    }

    private Thing make(Type type) throws Ended {
        if (reachable() >= 10) {
            throw new Ended(1, 6);
        }
        Thing made = new Thing(type);
        for (int name = 0; name < 16; name++) {
            if (type.has(name)) {
                made.values.put(name, name < 8 ? (Object) 0 : null);
            }
        }
        return made;
    }

    private void tick() throws Ended {
        if (ticks == 0) {
            throw new Ended(2, 0);
        }
        ticks--;
    }

    private Object execute(Method method, Thing receiver, Object argument) throws Ended {
        Frame frame = new Frame();
        frame.method = method;
        frame.locals[0] = receiver;
        frame.locals[1] = argument;
        frames.add(frame);
        while (method.code.get(frame.at) != 18) {
            int op = method.code.get(frame.at);
            int b = hasByte(op) ? method.code.get(frame.at + 1) : 0;
            boolean jumps = op == 10 || op == 11 && frame.popInt() == 0;
            if (jumps) {
                if (b <= frame.at) {
                    tick();
                }
                frame.at = b;
            } else {
                simple(frame, op, b);
                frame.at += hasByte(op) ? 2 : 1;
            }
        }
        frames.remove(frames.size() - 1);
        return frame.pop();
    }

    private void simple(Frame frame, int op, int b) throws Ended {
        List<Object> stack = frame.stack;
        if (op == 0) {
            stack.add(b > 127 ? b - 256 : b);
        } else if (op == 1) {
            stack.add(frame.locals[b]);
        } else if (op == 2) {
            frame.locals[b] = frame.pop();
        } else if (op == 3) {
            frame.pop();
        } else if (op >= 4 && op <= 8) {
            int second = frame.popInt();
            int first = frame.popInt();
            stack.add(calculated(op, first, second));
        } else if (op == 9) {
            stack.add(frame.pop() == frame.pop() ? 1 : 0);
        } else if (op == 12) {
            stack.add(null);
        } else if (op == 13) {
            stack.add(make(types.get(b)));
        } else if (op == 14) {
            stack.add(withField(frame.pop(), b).values.get(b));
        } else if (op == 15) {
            Object value = frame.pop();
            withField(frame.pop(), b).values.put(b, value);
        } else if (op == 16) {
            call(frame, b);
        } else if (op == 17) {
            Thing thing = (Thing) frame.pop();
            stack.add(thing != null && thing.type.isOrIsBelow(types.get(b)) ? 1 : 0);
        } else if (op == 19) {
            stack.add(globals[b]);
        } else if (op == 20) {
            globals[b] = (Thing) frame.pop();
        }
    }

    private static int calculated(int op, int first, int second) throws Ended {
        if (op == 4) {
            return first + second;
        }
        if (op == 5) {
            return first - second;
        }
        if (op == 6) {
            return first * second;
        }
        if (op == 8) {
            return first < second ? 1 : 0;
        }
        if (second == 0) {
            throw new Ended(1, 2);
        }
        return (int) ((long) first / second);
    }

    private static Thing withField(Object value, int name) throws Ended {
        Thing thing = (Thing) value;
        if (thing == null) {
            throw new Ended(1, 1);
        }
        if (!thing.type.has(name)) {
            throw new Ended(1, 3);
        }
        return thing;
    }

    private void call(Frame frame, int name) throws Ended {
        Object argument = frame.pop();
        Thing receiver = (Thing) frame.pop();
        if (receiver == null) {
            throw new Ended(1, 1);
        }
        Method method = receiver.type.find(name);
        if (method == null) {
            throw new Ended(1, 4);
        }
        if (frames.size() >= 6) {
            throw new Ended(1, 5);
        }
        tick();
        frame.stack.add(execute(method, receiver, argument));
    }
}
