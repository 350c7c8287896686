/** What is reachable at a NEW, with sure refs; and promises 11 to 16: looking at the globals. */
public final class HeapTest implements Codes {
    public static void main(String[] args) {
        invokeCountsTheGlobals();
        sureRefsOfTheMethodItself();
        bothGlobals();
        waysWithDifferentKinds();
        whatFieldsHold();
        waitingMethods();
        garbageIsNoMatter();
        held();
        peek();
        follow();
        alikeAndClear();
        reachable();
        Checks.finish();
    }

    private static void invokeCountsTheGlobals() {
        Chain.most("the receiver itself", 0, PUSH, 0, RETURN);
        GuestClassMachine x = Chain.chain(10, Chain.MAKE, Chain.MAKE, Chain.MAKE);
        Guest.run("full", x, Guest.call(0, 2, 0), THROWN, 6);
        Checks.due("full: the method didn't run", x.reachable(), 10);
        Checks.due("full: follow", x.follow(0, 8), true);
        Guest.run("one less", x, Guest.call(0, 2, 0), DONE, 0);
        Checks.due("one less: reachable", x.reachable(), 10);
        Checks.due("full: refused", x.invoke(0, 3, 0), REFUSED);
        Checks.due("full: result", x.result(), 0);
    }

    private static void sureRefsOfTheMethodItself() {
        Chain.most("local 0", 1, Chain.MAKE);
        Chain.most("local 0 made null", 0, NULL, STORE, 0, NEW, 0, POP, PUSH, 0, RETURN);
        Chain.most("local 0 made an INT", 0, PUSH, 1, STORE, 0, NEW, 0, POP, PUSH, 0, RETURN);
        Chain.most("an entry", 2, NEW, 0, NEW, 0, POP, POP, PUSH, 0, RETURN);
        Chain.most("four entries", 5, NEW, 0, NEW, 0, NEW, 0, NEW, 0, NEW, 0, POP, PUSH, 0, RETURN);
        Chain.most("a popped entry", 1, NEW, 0, POP, NEW, 0, POP, PUSH, 0, RETURN);
        Chain.most("the same twice", 1, LOAD, 0, LOAD, 0, NEW, 0, POP, PUSH, 0, RETURN);
        Chain.most("local 1", 2, NEW, 0, STORE, 1, NEW, 0, POP, PUSH, 0, RETURN);
        Chain.most("local 2", 2, NEW, 0, STORE, 2, NEW, 0, POP, PUSH, 0, RETURN);
        Chain.most("locals 2 and 3", 3, NEW, 0, STORE, 2, NEW, 0, STORE, 3, NEW, 0, POP, PUSH, 0, RETURN);
        Chain.most("a local made an INT", 1, NEW, 0, STORE, 2, PUSH, 1, STORE, 2, NEW, 0, POP, PUSH, 0, RETURN);
        Chain.most("a small INT is no ref", 0, PUSH, 1, STORE, 0, PUSH, 2, STORE, 2, PUSH, 10, NEW, 0,
            POP, POP, PUSH, 0, RETURN);
    }

    private static void bothGlobals() {
        int[] code = {NEW, 0, GSTORE, 1, NEW, 0, POP, PUSH, 0, RETURN};
        GuestClassMachine fits = Chain.chain(7, code, Chain.MAKE, Chain.MAKE);
        Guest.run("both globals, 9 reachable", fits, Guest.call(0, 0, 1), DONE, 0);
        Checks.due("both globals: reachable", fits.reachable(), 8);
        GuestClassMachine full = Chain.chain(8, code, Chain.MAKE, Chain.MAKE);
        Guest.run("both globals, 10 reachable", full, Guest.call(0, 0, 1), THROWN, 6);
        Checks.due("both globals: reachable", full.reachable(), 9);
    }

    private static void waysWithDifferentKinds() {
        // The argument is 1, so the first branch is gone.
        Chain.most("a local that is an INT on the other way", 1,
            LOAD, 1, JZERO, 10, NEW, 0, STORE, 2, JUMP, 14, PUSH, 1, STORE, 2, NEW, 0, POP, PUSH, 0, RETURN);
        Chain.most("a local that is null on the other way", 2,
            LOAD, 1, JZERO, 10, NEW, 0, STORE, 2, JUMP, 13, NULL, STORE, 2, NEW, 0, POP, PUSH, 0, RETURN);
        Chain.most("a local that is unset on the other way", 1,
            LOAD, 1, JZERO, 8, NEW, 0, STORE, 2, NEW, 0, POP, PUSH, 0, RETURN);
        Chain.most("an entry that is an INT on the other way", 1,
            LOAD, 1, JZERO, 8, NEW, 0, JUMP, 10, PUSH, 1, NEW, 0, POP, POP, PUSH, 0, RETURN);
        Chain.most("an entry that is a REF on both", 2,
            LOAD, 1, JZERO, 8, NEW, 0, JUMP, 10, GLOAD, 0, NEW, 0, POP, POP, PUSH, 0, RETURN);
        Chain.most("an entry loaded from a local that is not sure", 1,
            LOAD, 1, JZERO, 10, NEW, 0, STORE, 2, JUMP, 14, PUSH, 1, STORE, 2,
            LOAD, 2, NEW, 0, POP, POP, PUSH, 0, RETURN);
        Chain.most("not yet met", 2,
            LOAD, 1, JZERO, 13, NEW, 0, STORE, 2, NEW, 0, POP, JUMP, 13, PUSH, 0, RETURN);
        Chain.most("a way that no value takes", 1,
            NEW, 0, STORE, 2, PUSH, 0, JZERO, 12, PUSH, 1, STORE, 2, NEW, 0, POP, PUSH, 0, RETURN);
        Chain.most("bytes that no way reaches", 2,
            NEW, 0, STORE, 2, JUMP, 10, PUSH, 1, STORE, 2, NEW, 0, POP, PUSH, 0, RETURN);
        // The loop comes back to byte 4 with an INT in local 2, so it is never sure there.
        Chain.most("an INT from a later round", 1,
            NEW, 0, STORE, 2, NEW, 0, POP, LOAD, 1, JZERO, 21, PUSH, 0, STORE, 1, PUSH, 0, STORE, 2, JUMP, 4,
            PUSH, 0, RETURN);
    }

    private static void whatFieldsHold() {
        Chain.most("a field's object", 2,
            LOAD, 0, NEW, 0, PUT, 8, NEW, 0, POP, PUSH, 0, RETURN);
        Chain.most("two fields' objects", 3,
            LOAD, 0, NEW, 0, PUT, 8, LOAD, 0, NEW, 0, PUT, 9, NEW, 0, POP, PUSH, 0, RETURN);
        Chain.most("a field written over", 2,
            LOAD, 0, NEW, 0, PUT, 8, LOAD, 0, NEW, 0, PUT, 8, LOAD, 0, NULL, PUT, 8,
            NEW, 0, POP, PUSH, 0, RETURN);
        Chain.most("an INT field", 1,
            LOAD, 0, PUSH, 10, PUT, 0, NEW, 0, POP, PUSH, 0, RETURN);
        Chain.most("a ring", 2,
            LOAD, 0, NEW, 0, PUT, 8, LOAD, 0, GET, 8, LOAD, 0, PUT, 8, NULL, STORE, 1, NEW, 0, POP,
            PUSH, 0, RETURN);
        Chain.most("a ring that is let go", 2,
            LOAD, 0, NEW, 0, PUT, 8, LOAD, 0, GET, 8, LOAD, 0, PUT, 8, NEW, 0, STORE, 0, NEW, 0, POP,
            PUSH, 0, RETURN);
    }

    private static void waitingMethods() {
        int[] dropReceiver = {NULL, STORE, 0, NEW, 0, POP, PUSH, 0, RETURN};
        int[] dropArgument = {NULL, STORE, 1, NEW, 0, POP, PUSH, 0, RETURN};
        int[] answerNothing = {PUSH, 0, RETURN};
        Chain.most("the waiting method's receiver", 1,
            new int[] {LOAD, 0, LOAD, 1, CALL, 1, RETURN}, Chain.MAKE, Chain.MAKE);
        Chain.most("the waiting method's local", 2,
            new int[] {NEW, 0, STORE, 2, LOAD, 0, LOAD, 1, CALL, 1, RETURN}, Chain.MAKE, Chain.MAKE);
        Chain.most("the waiting method's entry", 2,
            new int[] {NEW, 0, LOAD, 0, LOAD, 1, CALL, 1, RETURN}, Chain.MAKE, Chain.MAKE);
        Chain.most("the called method's receiver", 2,
            new int[] {NEW, 0, LOAD, 1, CALL, 1, RETURN}, Chain.MAKE, Chain.MAKE);
        Chain.most("the called method's receiver, dropped", 1,
            new int[] {NEW, 0, LOAD, 1, CALL, 1, RETURN}, dropReceiver, Chain.MAKE);
        Chain.most("the called method's argument", 2,
            new int[] {LOAD, 0, NEW, 0, CALL, 5, RETURN}, Chain.MAKE, Chain.MAKE);
        Chain.most("the called method's argument, dropped", 1,
            new int[] {LOAD, 0, NEW, 0, CALL, 5, RETURN}, Chain.MAKE, dropArgument);
        Chain.most("the waiting method's local that is not sure", 1,
            new int[] {LOAD, 1, JZERO, 8, NEW, 0, STORE, 2, LOAD, 0, LOAD, 1, CALL, 1, RETURN}, Chain.MAKE, Chain.MAKE);
        Chain.most("a local that is an INT after the call", 2,
            new int[] {NEW, 0, STORE, 2, LOAD, 0, LOAD, 1, CALL, 1, STORE, 2, LOAD, 2, RETURN}, Chain.MAKE, Chain.MAKE);
        Chain.most("nothing of a method that has answered", 1,
            new int[] {LOAD, 0, LOAD, 1, CALL, 1, POP, NEW, 0, POP, LOAD, 0, LOAD, 1, CALL, 1, RETURN},
            new int[] {NEW, 0, STORE, 2, PUSH, 0, RETURN}, Chain.MAKE);
        Chain.most("over two waiting methods", 4,
            new int[] {NEW, 0, LOAD, 0, LOAD, 1, CALL, 1, RETURN},
            new int[] {NEW, 0, NEW, 0, STORE, 2, LOAD, 0, GLOAD, 1, CALL, 5, RETURN}, Chain.MAKE);
        Chain.most("the receiver alone", 0,
            new int[] {LOAD, 0, LOAD, 1, CALL, 1, RETURN}, answerNothing, answerNothing);
    }

    private static void garbageIsNoMatter() {
        // 100 objects are made and let go, beside nine that are held.
        int[] loop = {NULL, STORE, 0, NEW, 0, STORE, 0, NULL, STORE, 0, LOAD, 1, PUSH, 1, 5, STORE, 1,
            LOAD, 1, JZERO, 23, JUMP, 3, PUSH, 0, RETURN};
        GuestClassMachine x = Chain.chain(9, loop, Chain.MAKE, Chain.MAKE);
        Guest.run("garbage", x, Guest.call(0, 0, 100), DONE, 0);
        Checks.due("garbage: reachable", x.reachable(), 9);
        GuestClassMachine y = Chain.chain(10, loop, Chain.MAKE, Chain.MAKE);
        y.clear(0);
        Guest.run("after clear", y, Guest.call(0, 2, 0), DONE, 0);
        Checks.due("after clear: reachable", y.reachable(), 1);
    }

    /**
     * Type 0 has fields 0 (INT), 8 and 9; type 1 is below it with field 7; type 2 stands alone.
     * Method 2 puts the receiver in global 0 with its argument in field 0 and a new type 2 in field 8.
     */
    private static GuestClassMachine looked() {
        GuestClassMachine x = new GuestClassMachine();
        x.type(-1);
        x.field(0);
        x.field(8);
        x.field(9);
        Guest.method(x, 2, LOAD, 0, LOAD, 1, PUT, 0, LOAD, 0, NEW, 2, PUT, 8, LOAD, 0, GSTORE, 0, PUSH, 0, RETURN);
        Guest.method(x, 3, GLOAD, 0, GSTORE, 1, PUSH, 0, RETURN);
        Guest.method(x, 1, LOAD, 0, LOAD, 0, PUT, 9, LOAD, 0, GSTORE, 0, PUSH, 0, RETURN);
        x.type(0);
        x.field(7);
        x.type(-1);
        Guest.link(x);
        return x;
    }

    private static void held() {
        GuestClassMachine x = looked();
        Checks.due("held(0) null", x.held(0), -1);
        x.invoke(1, 2, 5);
        Checks.due("held(0)", x.held(0), 1);
        Checks.due("held(1) null", x.held(1), -1);
        x.invoke(0, 3, 5);
        Checks.due("held(1)", x.held(1), 1);
        x.invoke(0, 2, 5);
        Checks.due("held(0) anew", x.held(0), 0);
        Checks.due("held(1) stays", x.held(1), 1);
        for (int g : NO_GLOBALS) {
            Checks.due("held(" + g + ")", x.held(g), -1);
        }
    }

    private static void peek() {
        GuestClassMachine x = looked();
        Checks.due("peek of null", x.peek(0, 0), NO_VALUE);
        x.invoke(1, 2, -5);
        Checks.due("peek INT", x.peek(0, 0), -5);
        Checks.due("peek INT of below", x.peek(0, 7), 0);
        Checks.due("peek REF", x.peek(0, 8), 2);
        Checks.due("peek REF null", x.peek(0, 9), -1);
        Checks.due("peek of the null global", x.peek(1, 0), NO_VALUE);
        int[] noFields = {-2147483648, -8, -1, 1, 6, 10, 15, 16, 24, 2147483647};
        for (int name : noFields) {
            Checks.due("peek(0, " + name + ")", x.peek(0, name), NO_VALUE);
        }
        for (int g : NO_GLOBALS) {
            Checks.due("peek(" + g + ", 0)", x.peek(g, 0), NO_VALUE);
        }
        x.invoke(0, 2, 12);
        Checks.due("peek of another object", x.peek(0, 0), 12);
        Checks.due("peek: the type above has no such field", x.peek(0, 7), NO_VALUE);
        x.invoke(0, 3, 0);
        Checks.due("peek(1, 0)", x.peek(1, 0), 12);
    }

    private static void follow() {
        GuestClassMachine x = looked();
        Checks.due("follow of null", x.follow(0, 8), false);
        x.invoke(1, 2, 7);
        x.invoke(1, 3, 7);
        int[] noRefs = {-2147483648, -8, -1, 0, 7, 10, 15, 16, 24, 2147483647};
        for (int name : noRefs) {
            Checks.due("follow(0, " + name + ")", x.follow(0, name), false);
            Checks.due("follow(0, " + name + "): held", x.held(0), 1);
        }
        for (int g : NO_GLOBALS) {
            Checks.due("follow(" + g + ", 8)", x.follow(g, 8), false);
        }
        Checks.due("follow(1, 8)", x.follow(1, 8), true);
        Checks.due("follow(1, 8): held(1)", x.held(1), 2);
        Checks.due("follow(1, 8): held(0)", x.held(0), 1);
        Checks.due("follow where there is no such field", x.follow(1, 8), false);
        Checks.due("follow to null", x.follow(0, 9), true);
        Checks.due("follow to null: held", x.held(0), -1);
        Checks.due("follow to null: again", x.follow(0, 9), false);
        x.invoke(0, 1, 0);
        Checks.due("follow to itself", x.follow(0, 9), true);
        Checks.due("follow to itself: held", x.held(0), 0);
        Checks.due("follow to itself: peek", x.peek(0, 9), 0);
    }

    private static void alikeAndClear() {
        GuestClassMachine x = looked();
        Checks.due("alike: both null", x.alike(), false);
        x.invoke(0, 2, 7);
        Checks.due("alike: one null", x.alike(), false);
        x.invoke(0, 3, 7);
        Checks.due("alike: the same", x.alike(), true);
        x.invoke(0, 2, 7);
        Checks.due("alike: equal ones", x.alike(), false);
        for (int g : NO_GLOBALS) {
            Checks.due("clear(" + g + ")", x.clear(g), false);
        }
        Checks.due("nothing cleared: held(0)", x.held(0), 0);
        Checks.due("nothing cleared: held(1)", x.held(1), 0);
        Checks.due("clear(0)", x.clear(0), true);
        Checks.due("clear(0): held(0)", x.held(0), -1);
        Checks.due("clear(0): held(1)", x.held(1), 0);
        Checks.due("clear(0): alike", x.alike(), false);
        Checks.due("clear(0) again", x.clear(0), true);
        Checks.due("clear(1)", x.clear(1), true);
        Checks.due("clear(1): held(1)", x.held(1), -1);
        Checks.due("both clear: alike", x.alike(), false);
    }

    private static void reachable() {
        GuestClassMachine x = looked();
        Checks.due("reachable: none", x.reachable(), 0);
        x.invoke(0, 2, 10);
        Checks.due("reachable: one and its field's", x.reachable(), 2);
        x.invoke(0, 3, 0);
        Checks.due("reachable: the same from both", x.reachable(), 2);
        x.invoke(0, 2, 10);
        Checks.due("reachable: two each", x.reachable(), 4);
        x.follow(0, 8);
        Checks.due("reachable: one let go", x.reachable(), 3);
        x.clear(1);
        Checks.due("reachable: one left", x.reachable(), 1);
        x.invoke(1, 1, 0);
        Checks.due("reachable: a ring of one", x.reachable(), 1);
        x.clear(0);
        Checks.due("reachable: none left", x.reachable(), 0);
    }
}
