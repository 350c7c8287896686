/** The instructions and the answers by name, for every test that writes guest code. */
interface Codes {
    int PUSH = 0, LOAD = 1, STORE = 2, POP = 3, ADD = 4, SUB = 5, MUL = 6, DIV = 7;
    int LESS = 8, SAME = 9, JUMP = 10, JZERO = 11, NULL = 12, NEW = 13, GET = 14;
    int PUT = 15, CALL = 16, IS = 17, RETURN = 18, GLOAD = 19, GSTORE = 20;

    int OK = 0, FORM = 1, FLOW = 2, EMPTY = 3;
    int DONE = 0, THROWN = 1, STOPPED = 2, REFUSED = 3;

    int LEAST = -2147483648;
    int GREATEST = 2147483647;
    int NO_VALUE = -2147483648;

    /** Numbers that are no global, the nearest ones among them. */
    int[] NO_GLOBALS = {LEAST, -2, -1, 2, 3, 16, GREATEST};
    /** Numbers outside the names, the nearest ones among them. */
    int[] NO_NAMES = {LEAST, -17, -16, -2, -1, 16, 17, 31, 32, 256, GREATEST};
}
