/**
 * A small guest machine: types with fields and methods given as bytes, checked as a whole before
 * anything may run, then executed with calls by name over an own heap of objects.
 */
public final class GuestClassMachine {
    public static final int OK = 0, FORM = 1, FLOW = 2, EMPTY = 3;
    public static final int DONE = 0, THROWN = 1, STOPPED = 2, REFUSED = 3;

    private static final int PUSH = 0, LOAD = 1, STORE = 2, POP = 3;
    private static final int ADD = 4, SUB = 5, MUL = 6, DIV = 7, LESS = 8, SAME = 9;
    private static final int JUMP = 10, JZERO = 11;
    private static final int NULL = 12, NEW = 13, GET = 14, PUT = 15, CALL = 16, IS = 17;
    private static final int RETURN = 18, GLOAD = 19, GSTORE = 20;

    private static final int ON_NULL = 1, BY_ZERO = 2, NO_FIELD = 3;
    private static final int NO_METHOD = 4, TOO_DEEP = 5, HEAP_FULL = 6;

    private static final int NONE = -1;
    private static final int RUNNING = -1;
    private static final int NO_VALUE = -2147483648;

    private static final int NAMES = 16;
    private static final int FIRST_REF_NAME = 8;
    private static final int REF_ARGUMENT_BIT = 4;
    private static final int TYPE_LIMIT = 5;
    private static final int FIELD_LIMIT = 4;
    private static final int METHOD_LIMIT = 8;
    private static final int CODE_LIMIT = 32;
    private static final int ALL_CODE = METHOD_LIMIT * CODE_LIMIT;
    private static final int BYTE_LIMIT = 256;
    private static final int GLOBALS = 2;
    private static final int FRAME_LIMIT = 6;
    private static final int TICKS = 100;
    private static final int CALL_SIZE = 2, JZERO_SIZE = 2;

    // A frame's slots: its locals first, then its stack entries from the bottom up.
    private static final int LOCALS = 4;
    private static final int ENTRIES = 5;
    private static final int SLOTS = LOCALS + ENTRIES;
    private static final int ALL_SLOTS = FRAME_LIMIT * SLOTS;
    private static final int ALL_KINDS = ALL_CODE * SLOTS;

    // Kinds are bits, so that one number can tell all the kinds a slot has on the ways to a byte.
    private static final int UNSET = 1, INT = 2, REF = 4, EITHER = INT | REF;

    // A reference is the number of a place in the heap. Place 0 stands for null and is never used,
    // so that zeroed fields are null. Ten places are enough: what isn't reachable is never used again.
    private static final int NULL_REF = 0;
    private static final int OBJECT_LIMIT = 10;
    private static final int HEAP_PLACES = OBJECT_LIMIT + 1;
    private static final int ALL_VALUES = HEAP_PLACES * NAMES;

    // Far above what can be needed: a check has some 600 rounds at most, a run some 3300 steps.
    private static final int LOOP_LIMIT = 1000000;

    private int typeCount = 0;
    private final int[] typeAbove = new int[TYPE_LIMIT];
    // A bit for each field's name, those of the types above included.
    private final int[] fieldSet = new int[TYPE_LIMIT];

    private int methodCount = 0;
    private final int[] methodType = new int[METHOD_LIMIT];
    private final int[] methodName = new int[METHOD_LIMIT];
    private final int[] codeLength = new int[METHOD_LIMIT];
    private final int[] bytes = new int[ALL_CODE];

    private boolean linked = false;
    private int faultPlace = NONE;
    private final boolean[] isStart = new boolean[ALL_CODE];
    // What the check found for each byte; the kinds are kept for the sure refs of a run.
    private final int[] heightAt = new int[ALL_CODE];
    private final int[] kindsAt = new int[ALL_KINDS];
    private final boolean[] isWaiting = new boolean[ALL_CODE];
    private final int[] flowKinds = new int[SLOTS];
    private int flowHeight = 0;

    private final int[] globals = new int[GLOBALS];
    private final int[] objectType = new int[HEAP_PLACES];
    private final int[] fieldValue = new int[ALL_VALUES];
    private final boolean[] isMarked = new boolean[HEAP_PLACES];

    private int active = 0;
    private final int[] frameMethod = new int[FRAME_LIMIT];
    private final int[] frameAt = new int[FRAME_LIMIT];
    private final int[] frameHeight = new int[FRAME_LIMIT];
    private final int[] slots = new int[ALL_SLOTS];
    private int ticksLeft = 0;
    private int outcome = DONE;
    private int latestResult = 0;

    public GuestClassMachine() {
    }

    // ---- building

    public int type(int above) {
        if (linked || typeCount == TYPE_LIMIT) {
            return NONE;
        }
        if (above != NONE && !isType(above)) {
            return NONE;
        }
        int number = typeCount;
        typeAbove[number] = above;
        // Older types get no more fields, so their fields can be taken over once and for all.
        fieldSet[number] = above == NONE ? 0 : fieldSet[above];
        typeCount++;
        return number;
    }

    public boolean field(int name) {
        if (linked || typeCount == 0 || !isName(name)) {
            return false;
        }
        int newest = typeCount - 1;
        if (hasField(newest, name) || countFields(newest) == FIELD_LIMIT) {
            return false;
        }
        fieldSet[newest] |= 1 << name;
        return true;
    }

    public boolean method(int name) {
        if (linked || typeCount == 0 || !isName(name) || methodCount == METHOD_LIMIT) {
            return false;
        }
        int newest = typeCount - 1;
        if (findOwnMethod(newest, name) != NONE) {
            return false;
        }
        methodType[methodCount] = newest;
        methodName[methodCount] = name;
        codeLength[methodCount] = 0;
        methodCount++;
        return true;
    }

    public boolean code(int b) {
        if (linked || methodCount == 0 || b < 0 || b >= BYTE_LIMIT) {
            return false;
        }
        int newest = methodCount - 1;
        int length = codeLength[newest];
        if (length == CODE_LIMIT) {
            return false;
        }
        bytes[newest * CODE_LIMIT + length] = b;
        codeLength[newest] = length + 1;
        return true;
    }

    public int link() {
        if (linked) {
            return OK;
        }
        faultPlace = NONE;
        if (typeCount == 0) {
            return EMPTY;
        }
        for (int m = 0; m < methodCount; m++) {
            int fault = findFormFault(m);
            if (fault != NONE) {
                faultPlace = m * CODE_LIMIT + fault;
                return FORM;
            }
            if (!flowHolds(m)) {
                faultPlace = m * CODE_LIMIT;
                return FLOW;
            }
        }
        linked = true;
        return OK;
    }

    public int place() {
        return faultPlace;
    }

    public void reset() {
        typeCount = 0;
        methodCount = 0;
        linked = false;
        for (int g = 0; g < GLOBALS; g++) {
            globals[g] = NULL_REF;
        }
        latestResult = 0;
    }

    // ---- running and looking

    public int invoke(int type, int name, int arg) {
        if (!linked || !isType(type) || !isName(name)) {
            return REFUSED;
        }
        int m = findMethod(type, name);
        if (m == NONE) {
            return REFUSED;
        }
        outcome = RUNNING;
        ticksLeft = TICKS;
        int receiver = allocate(type);
        if (receiver == NULL_REF) {
            end(THROWN, HEAP_FULL);
        } else {
            boolean takesRef = argumentKind(name) == REF;
            enter(m, receiver, takesRef ? NULL_REF : arg);
        }
        for (int steps = 0; steps < LOOP_LIMIT && outcome == RUNNING; steps++) {
            step();
        }
        // Without frames only the globals hold objects between invocations.
        active = 0;
        return outcome;
    }

    public int result() {
        return latestResult;
    }

    public int held(int g) {
        return isGlobal(g) ? typeOrNone(globals[g]) : NONE;
    }

    public int peek(int g, int name) {
        if (!globalHasField(g, name)) {
            return NO_VALUE;
        }
        int value = fieldValue[globals[g] * NAMES + name];
        return valueKind(name) == REF ? typeOrNone(value) : value;
    }

    public boolean follow(int g, int name) {
        if (name < FIRST_REF_NAME || !globalHasField(g, name)) {
            return false;
        }
        globals[g] = fieldValue[globals[g] * NAMES + name];
        return true;
    }

    public boolean alike() {
        return globals[0] != NULL_REF && globals[0] == globals[1];
    }

    public boolean clear(int g) {
        if (!isGlobal(g)) {
            return false;
        }
        globals[g] = NULL_REF;
        return true;
    }

    public int reachable() {
        markRoots();
        markFields();
        return countMarked();
    }

    // ---- names, types and members

    private static boolean isName(int name) {
        return name >= 0 && name < NAMES;
    }

    private static boolean isGlobal(int g) {
        return g >= 0 && g < GLOBALS;
    }

    private boolean isType(int number) {
        return number >= 0 && number < typeCount;
    }

    /** The kind of a field of this name, and of the answer of a method of this name. */
    private static int valueKind(int name) {
        return name >= FIRST_REF_NAME ? REF : INT;
    }

    private static int argumentKind(int name) {
        return (name & REF_ARGUMENT_BIT) != 0 ? REF : INT;
    }

    private boolean hasField(int type, int name) {
        return (fieldSet[type] >> name & 1) == 1;
    }

    private int countFields(int type) {
        int count = 0;
        for (int name = 0; name < NAMES; name++) {
            count += fieldSet[type] >> name & 1;
        }
        return count;
    }

    private boolean globalHasField(int g, int name) {
        if (!isGlobal(g) || !isName(name) || globals[g] == NULL_REF) {
            return false;
        }
        return hasField(objectType[globals[g]], name);
    }

    private int typeOrNone(int ref) {
        return ref == NULL_REF ? NONE : objectType[ref];
    }

    private int findOwnMethod(int type, int name) {
        for (int m = 0; m < methodCount; m++) {
            if (methodType[m] == type && methodName[m] == name) {
                return m;
            }
        }
        return NONE;
    }

    private int findMethod(int type, int name) {
        int found = NONE;
        int t = type;
        for (int up = 0; up < TYPE_LIMIT && t != NONE && found == NONE; up++) {
            found = findOwnMethod(t, name);
            t = typeAbove[t];
        }
        return found;
    }

    private boolean isOfType(int ref, int wanted) {
        int t = typeOrNone(ref);
        for (int up = 0; up < TYPE_LIMIT && t != NONE && t != wanted; up++) {
            t = typeAbove[t];
        }
        return t == wanted;
    }

    // ---- the form of a method

    private static int sizeOf(int op) {
        boolean alone = op >= POP && op <= SAME || op == NULL || op == RETURN;
        return alone ? 1 : 2;
    }

    private int findFormFault(int m) {
        if (codeLength[m] == 0) {
            return 0;
        }
        int fault = findByteFault(m);
        return fault == NONE ? findJumpFault(m) : fault;
    }

    /** Also notes where the instructions start, as far as it comes. */
    private int findByteFault(int m) {
        int base = m * CODE_LIMIT;
        for (int at = 0; at < CODE_LIMIT; at++) {
            isStart[base + at] = false;
        }
        for (int at = 0; at < codeLength[m]; at++) {
            int op = bytes[base + at];
            if (op > GSTORE) {
                return at;
            }
            int size = sizeOf(op);
            if (at + size > codeLength[m]) {
                return at;
            }
            if (size == 2 && !operandFits(op, bytes[base + at + 1])) {
                return at;
            }
            isStart[base + at] = true;
            if (size == 2) {
                at++;
            }
        }
        return NONE;
    }

    private boolean operandFits(int op, int b) {
        switch (op) {
            case LOAD:
            case STORE:
                return b < LOCALS;
            case GET:
            case PUT:
            case CALL:
                return isName(b);
            case GLOAD:
            case GSTORE:
                return isGlobal(b);
            case NEW:
            case IS:
                return isType(b);
            default:
                return true;
        }
    }

    private int findJumpFault(int m) {
        int base = m * CODE_LIMIT;
        for (int at = 0; at < codeLength[m]; at++) {
            int op = bytes[base + at];
            if (isStart[base + at] && (op == JUMP || op == JZERO)) {
                int target = bytes[base + at + 1];
                if (target >= codeLength[m] || !isStart[base + target]) {
                    return at;
                }
            }
        }
        return NONE;
    }

    // ---- the flow of a method

    /**
     * Each slot's kinds are gathered over all ways at once. That loses nothing against going every
     * way alone, as no instruction's needs tie the kinds of two slots together.
     */
    private boolean flowHolds(int m) {
        startFlow(m);
        boolean someWaiting = true;
        for (int round = 0; round < LOOP_LIMIT && someWaiting; round++) {
            someWaiting = false;
            for (int at = 0; at < codeLength[m]; at++) {
                if (isWaiting[m * CODE_LIMIT + at]) {
                    someWaiting = true;
                    if (!flowOn(m, at)) {
                        return false;
                    }
                }
            }
        }
        return true;
    }

    private void startFlow(int m) {
        for (int at = 0; at < CODE_LIMIT; at++) {
            heightAt[m * CODE_LIMIT + at] = NONE;
            isWaiting[m * CODE_LIMIT + at] = false;
        }
        flowHeight = 0;
        flowKinds[0] = REF;
        flowKinds[1] = argumentKind(methodName[m]);
        flowKinds[2] = UNSET;
        flowKinds[3] = UNSET;
        arrive(m, 0);
    }

    /** Takes the ways that reach this instruction one instruction on; false if one is refused. */
    private boolean flowOn(int m, int at) {
        int first = m * CODE_LIMIT + at;
        isWaiting[first] = false;
        flowHeight = heightAt[first];
        for (int s = 0; s < LOCALS + flowHeight; s++) {
            flowKinds[s] = kindsAt[first * SLOTS + s];
        }
        int op = bytes[first];
        int size = sizeOf(op);
        int b = size == 2 ? bytes[first + 1] : 0;
        if (!takeEntries(m, op, b) || !giveEntry(op, b)) {
            return false;
        }
        if (op == RETURN) {
            return true;
        }
        if (op == JUMP) {
            return arrive(m, b);
        }
        if (op == JZERO && !arrive(m, b)) {
            return false;
        }
        return arrive(m, at + size);
    }

    private boolean takeEntries(int m, int op, int b) {
        int top = topNeed(m, op, b);
        int second = secondNeed(op);
        int taken = (top == 0 ? 0 : 1) + (second == 0 ? 0 : 1);
        if (flowHeight < taken) {
            return false;
        }
        int topSlot = LOCALS + flowHeight - 1;
        if (taken >= 1 && (flowKinds[topSlot] & ~top) != 0) {
            return false;
        }
        if (taken == 2 && (flowKinds[topSlot - 1] & ~second) != 0) {
            return false;
        }
        if (op == STORE) {
            flowKinds[b] = flowKinds[topSlot];
        }
        flowHeight -= taken;
        return true;
    }

    private boolean giveEntry(int op, int b) {
        int given = op == LOAD ? flowKinds[b] : givenKind(op, b);
        if (given == 0) {
            return true;
        }
        if ((given & UNSET) != 0 || flowHeight == ENTRIES) {
            return false;
        }
        flowKinds[LOCALS + flowHeight] = given;
        flowHeight++;
        return true;
    }

    /** The kinds that may be on top, 0 if nothing is taken. */
    private int topNeed(int m, int op, int b) {
        switch (op) {
            case ADD:
            case SUB:
            case MUL:
            case DIV:
            case LESS:
            case JZERO:
                return INT;
            case SAME:
            case GET:
            case IS:
            case GSTORE:
                return REF;
            case STORE:
            case POP:
                return EITHER;
            case PUT:
                return valueKind(b);
            case CALL:
                return argumentKind(b);
            case RETURN:
                return valueKind(methodName[m]);
            default:
                return 0;
        }
    }

    /** The kinds that may be below the topmost entry, 0 if that is not taken. */
    private static int secondNeed(int op) {
        switch (op) {
            case ADD:
            case SUB:
            case MUL:
            case DIV:
            case LESS:
                return INT;
            case SAME:
            case PUT:
            case CALL:
                return REF;
            default:
                return 0;
        }
    }

    /** The kind that is put on the stack, 0 if nothing is; LOAD gives what its local has instead. */
    private static int givenKind(int op, int b) {
        switch (op) {
            case PUSH:
            case ADD:
            case SUB:
            case MUL:
            case DIV:
            case LESS:
            case SAME:
            case IS:
                return INT;
            case NULL:
            case NEW:
            case GLOAD:
                return REF;
            case GET:
            case CALL:
                return valueKind(b);
            default:
                return 0;
        }
    }

    /** Adds the flow's kinds to those at a byte; false if no way may come there like this. */
    private boolean arrive(int m, int at) {
        if (at >= codeLength[m]) {
            return false;
        }
        int to = m * CODE_LIMIT + at;
        boolean isNew = heightAt[to] == NONE;
        if (!isNew && heightAt[to] != flowHeight) {
            return false;
        }
        heightAt[to] = flowHeight;
        for (int s = 0; s < LOCALS + flowHeight; s++) {
            int known = isNew ? 0 : kindsAt[to * SLOTS + s];
            int joined = known | flowKinds[s];
            if (joined != known) {
                kindsAt[to * SLOTS + s] = joined;
                isWaiting[to] = true;
            }
        }
        return true;
    }

    // ---- the heap

    /** Marks what the globals and the sure refs of the active methods hold, and nothing else. */
    private void markRoots() {
        for (int ref = 0; ref < HEAP_PLACES; ref++) {
            isMarked[ref] = false;
        }
        for (int g = 0; g < GLOBALS; g++) {
            isMarked[globals[g]] = true;
        }
        for (int f = 0; f < active; f++) {
            int kinds = (frameMethod[f] * CODE_LIMIT + frameAt[f]) * SLOTS;
            for (int s = 0; s < LOCALS + frameHeight[f]; s++) {
                if (kindsAt[kinds + s] == REF) {
                    isMarked[slots[f * SLOTS + s]] = true;
                }
            }
        }
    }

    private void markFields() {
        // The longest chain has every object in it, and each round goes on by one at least.
        for (int round = 0; round < OBJECT_LIMIT; round++) {
            for (int ref = NULL_REF + 1; ref < HEAP_PLACES; ref++) {
                for (int name = FIRST_REF_NAME; name < NAMES && isMarked[ref]; name++) {
                    isMarked[fieldValue[ref * NAMES + name]] = true;
                }
            }
        }
    }

    private int countMarked() {
        int count = 0;
        for (int ref = NULL_REF + 1; ref < HEAP_PLACES; ref++) {
            count += isMarked[ref] ? 1 : 0;
        }
        return count;
    }

    /** A new object, or null if too many are reachable. */
    private int allocate(int type) {
        markRoots();
        markFields();
        if (countMarked() >= OBJECT_LIMIT) {
            return NULL_REF;
        }
        int free = NULL_REF;
        for (int ref = NULL_REF + 1; ref < HEAP_PLACES && free == NULL_REF; ref++) {
            free = isMarked[ref] ? NULL_REF : ref;
        }
        objectType[free] = type;
        for (int name = 0; name < NAMES; name++) {
            fieldValue[free * NAMES + name] = 0;
        }
        return free;
    }

    // ---- a run

    private void end(int how, int what) {
        outcome = how;
        latestResult = what;
    }

    private void enter(int m, int receiver, int argument) {
        int base = active * SLOTS;
        slots[base] = receiver;
        slots[base + 1] = argument;
        frameMethod[active] = m;
        frameAt[active] = 0;
        frameHeight[active] = 0;
        active++;
    }

    private void push(int frame, int value) {
        slots[frame * SLOTS + LOCALS + frameHeight[frame]] = value;
        frameHeight[frame]++;
    }

    private int pop(int frame) {
        frameHeight[frame]--;
        return slots[frame * SLOTS + LOCALS + frameHeight[frame]];
    }

    private void step() {
        int frame = active - 1;
        int first = frameMethod[frame] * CODE_LIMIT + frameAt[frame];
        int op = bytes[first];
        int size = sizeOf(op);
        int b = size == 2 ? bytes[first + 1] : 0;
        switch (op) {
            case JUMP:
                jump(frame, b);
                return;
            case JZERO:
                jumpIfZero(frame, b);
                return;
            case CALL:
                callMethod(frame, b);
                return;
            case RETURN:
                leaveMethod(frame);
                return;
            case NEW:
                makeObject(frame, b);
                break;
            case GET:
                getField(frame, b);
                break;
            case PUT:
                putField(frame, b);
                break;
            case IS:
                testType(frame, b);
                break;
            default:
                if (op >= ADD && op <= SAME) {
                    calculate(frame, op);
                } else {
                    moveValue(frame, op, b);
                }
                break;
        }
        frameAt[frame] += size;
    }

    private void moveValue(int frame, int op, int b) {
        switch (op) {
            case PUSH:
                push(frame, (byte) b);
                break;
            case LOAD:
                push(frame, slots[frame * SLOTS + b]);
                break;
            case STORE:
                slots[frame * SLOTS + b] = pop(frame);
                break;
            case POP:
                pop(frame);
                break;
            case NULL:
                push(frame, NULL_REF);
                break;
            case GLOAD:
                push(frame, globals[b]);
                break;
            default:
                globals[b] = pop(frame);
                break;
        }
    }

    private void calculate(int frame, int op) {
        int second = pop(frame);
        int first = pop(frame);
        if (op == DIV && second == 0) {
            end(THROWN, BY_ZERO);
            return;
        }
        int answer;
        switch (op) {
            case ADD:
                answer = first + second;
                break;
            case SUB:
                answer = first - second;
                break;
            case MUL:
                answer = first * second;
                break;
            case DIV:
                answer = first / second;
                break;
            case LESS:
                answer = first < second ? 1 : 0;
                break;
            default:
                answer = first == second ? 1 : 0;
                break;
        }
        push(frame, answer);
    }

    private boolean useTick() {
        if (ticksLeft == 0) {
            end(STOPPED, 0);
            return false;
        }
        ticksLeft--;
        return true;
    }

    private void jump(int frame, int target) {
        if (target > frameAt[frame] || useTick()) {
            frameAt[frame] = target;
        }
    }

    private void jumpIfZero(int frame, int target) {
        int tested = pop(frame);
        if (tested == 0) {
            jump(frame, target);
        } else {
            frameAt[frame] += JZERO_SIZE;
        }
    }

    private void makeObject(int frame, int type) {
        int made = allocate(type);
        if (made == NULL_REF) {
            end(THROWN, HEAP_FULL);
        } else {
            push(frame, made);
        }
    }

    /** Whether a field may be used; where not, the invocation is ended. */
    private boolean fieldIsThere(int ref, int name) {
        if (ref == NULL_REF) {
            end(THROWN, ON_NULL);
            return false;
        }
        if (!hasField(objectType[ref], name)) {
            end(THROWN, NO_FIELD);
            return false;
        }
        return true;
    }

    private void getField(int frame, int name) {
        int ref = pop(frame);
        if (fieldIsThere(ref, name)) {
            push(frame, fieldValue[ref * NAMES + name]);
        }
    }

    private void putField(int frame, int name) {
        int value = pop(frame);
        int ref = pop(frame);
        if (fieldIsThere(ref, name)) {
            fieldValue[ref * NAMES + name] = value;
        }
    }

    private void testType(int frame, int type) {
        int ref = pop(frame);
        boolean is = isOfType(ref, type);
        push(frame, is ? 1 : 0);
    }

    /** The caller stays at its CALL, so that its sure refs are those of that instruction. */
    private void callMethod(int frame, int name) {
        int argument = pop(frame);
        int receiver = pop(frame);
        if (receiver == NULL_REF) {
            end(THROWN, ON_NULL);
            return;
        }
        int m = findMethod(objectType[receiver], name);
        if (m == NONE) {
            end(THROWN, NO_METHOD);
        } else if (active == FRAME_LIMIT) {
            end(THROWN, TOO_DEEP);
        } else if (useTick()) {
            enter(m, receiver, argument);
        }
    }

    private void leaveMethod(int frame) {
        int answer = pop(frame);
        active--;
        if (active > 0) {
            push(frame - 1, answer);
            frameAt[frame - 1] += CALL_SIZE;
            return;
        }
        boolean isRef = valueKind(methodName[frameMethod[frame]]) == REF;
        int told = isRef ? typeOrNone(answer) : answer;
        end(DONE, told);
    }
}
