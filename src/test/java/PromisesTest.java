/** One example after another, worked out by hand from the document, for each of its promises. */
public final class PromisesTest {
    private static final long TOP = 0x8000000000000000L;
    private static final long QUIET = 0xc000000000000000L;
    private static final int MINUS = 0x8000;
    private static final int INFINITE = 0x7fff;

    // Codes: op times 256 and the byte.
    private static final int PUSH_SHORT = 0x100;
    private static final int PUSH_32 = 0x300;
    private static final int PUSH_PATTERN = 0x328;
    private static final int PUSH_LONG = 0x500;
    private static final int PUSH_16 = 0x700;
    private static final int PUSH_DECIMALS = 0x720;
    private static final int PUSH_64 = 0x728;
    private static final int WRITE_SHORT = 0x110;
    private static final int WRITE_SHORT_POP = 0x118;
    private static final int WRITE_32 = 0x310;
    private static final int WRITE_LONG = 0x510;
    private static final int WRITE_16 = 0x710;
    private static final int WRITE_DECIMALS_POP = 0x730;
    private static final int WRITE_64_POP = 0x738;
    private static final int WRITE_PATTERN_POP = 0x338;
    private static final int READ_ENVIRONMENT = 0x120;
    private static final int READ_CONTROL = 0x128;
    private static final int WRITE_ENVIRONMENT = 0x130;
    private static final int WRITE_CONTROL = 0x138;
    private static final int RESTORE = 0x520;
    private static final int SAVE = 0x530;
    private static final int WRITE_STATUS = 0x538;
    private static final int ADD = 0x0c1;
    private static final int TIMES = 0x0c9;
    private static final int COMPARE = 0x0d1;
    private static final int MINUS_FIRST = 0x0e1;
    private static final int MINUS_TURNED = 0x0e9;
    private static final int DIVIDE = 0x0f1;
    private static final int DIVIDE_TURNED = 0x0f9;
    private static final int ROOT = 0x1fa;
    private static final int WHOLE = 0x1fc;
    private static final int SCALE = 0x1fd;
    private static final int REMAINDER = 0x1f8;
    private static final int EXTRACT = 0x1f4;
    private static final int EXAMINE = 0x1e5;
    private static final int TEST = 0x1e4;
    private static final int ONE = 0x1e8;
    private static final int CLEAR = 0x3e2;
    private static final int INITIAL = 0x3e3;

    private static int wrong = 0;
    private static int asked = 0;
    private static PartnerStack x = new PartnerStack();

    private static void due(String what, long got, long want) {
        asked++;
        if (got != want) {
            wrong++;
            System.out.println(what + " answered " + Long.toHexString(got) + ", due is " + Long.toHexString(want));
        }
    }

    private static void fresh(int control) {
        x = new PartnerStack();
        x.memory(0, control);
        x.execute(1, 0x28, 0, 0);
    }

    private static void run(int... codes) {
        for (int code : codes) {
            due("execute " + Integer.toHexString(code), x.execute(code >> 8, code & 255, 100, 200), PartnerStack.DONE);
        }
    }

    private static void bytes(long low, int high) {
        x.memory(0, (int) low);
        x.memory(4, (int) (low >>> 32));
        x.memory(8, high);
    }

    /** Pushes what comes first last, so that it is ST(0). */
    private static void push(int top, long fraction) {
        bytes(fraction, top);
        run(PUSH_PATTERN);
    }

    private static void first(String what, int top, long fraction, int told) {
        due(what + ": top", x.part(0, 0), top);
        due(what + ": fraction", (long) x.part(0, 1) << 32 | x.part(0, 2) & 0xffffffffL, fraction);
        due(what + ": told", x.word(7), told);
    }

    private static long memoryBits(int from, int count) {
        long all = 0;
        for (int i = count - 1; i >= 0; i--) {
            all = all << 8 | x.byteAt(from + i);
        }
        return all;
    }

    /** A code on ST(0) = a (and ST(1) = b) under a control; the answer in ST(0). */
    private static void answer(int control, int code, int topA, long a, int topB, long b) {
        fresh(control);
        push(topB, b);
        push(topA, a);
        run(code);
    }

    // ---- promises 1 to 3

    private static void newObject() {
        x = new PartnerStack();
        int[] words = {0x3ff, 0, 0xffff, 0, 0, 0, 0, 0};
        for (int i = 0; i < 8; i++) {
            due("new word " + i, x.word(i), words[i]);
            for (int what = 0; what < 3; what++) {
                due("new part", x.part(i, what), 0);
            }
        }
        for (int i = 0; i < 94; i++) {
            due("new byte " + i, x.byteAt(i), 0);
        }
    }

    private static void memoryAndBytes() {
        x = new PartnerStack();
        x.memory(90, 0x81020304);
        x.memory(0, -2);
        due("byte 90", x.byteAt(90), 4);
        due("byte 91", x.byteAt(91), 3);
        due("byte 93", x.byteAt(93), 0x81);
        due("byte 0", x.byteAt(0), 254);
        due("byte 3", x.byteAt(3), 255);
        due("byte 4", x.byteAt(4), 0);
        for (int i : new int[] {-1, 91, 94, Integer.MIN_VALUE, Integer.MAX_VALUE}) {
            int kind = 0;
            try {
                x.memory(i, 0x55555555);
            } catch (IndexOutOfBoundsException e) {
                kind = 1;
            }
            due("memory(" + i + ") throws", kind, 1);
        }
        due("byte 91 stays", x.byteAt(91), 3);
        for (int i : new int[] {-1, 94, Integer.MIN_VALUE, Integer.MAX_VALUE}) {
            int kind = 0;
            try {
                x.byteAt(i);
            } catch (IndexOutOfBoundsException e) {
                kind = 1;
            }
            due("byteAt(" + i + ") throws", kind, 1);
        }
    }

    // ---- promise 4: what is a code

    private static void wrongCalls() {
        fresh(0x37f);
        run(ONE, 0x1c9);
        int[][] calls = {{-1, 0, 0, 0}, {8, 0, 0, 0}, {0, -1, 0, 0}, {0, 256, 0, 0}, {0, 0, -1, 0}, {0, 0, 1 << 20, 0},
            {0, 0, 0, -1}, {0, 0, 0, 1 << 20}, {Integer.MIN_VALUE, Integer.MAX_VALUE, 0, 0}};
        for (int[] c : calls) {
            int kind = 0;
            try {
                x.execute(c[0], c[1], c[2], c[3]);
            } catch (IllegalArgumentException e) {
                kind = 1;
            }
            due("execute throws", kind, 1);
        }
        due("code stays", x.word(4), 0x1c9);
        due("told stays", x.word(7), 1);
        due("place at the end", x.execute(1, 0xd0, (1 << 20) - 1, (1 << 20) - 1), 0);
        due("its place", x.word(5), (1 << 20) - 1);
        due("its operand", x.word(6), (1 << 20) - 1);
    }

    private static void codesAndNone() {
        int none = 0;
        int refused = 0;
        for (int op = 0; op < 8; op++) {
            for (int code = 0; code < 256; code++) {
                fresh(0x37e);
                run(0x1c0);
                int status = x.word(1);
                int sort = x.execute(op, code, 7, 8);
                none += sort == PartnerStack.NO_CODE ? 1 : 0;
                refused += sort == PartnerStack.REFUSED ? 1 : 0;
                if (sort != PartnerStack.DONE) {
                    due("status stays", x.word(1), status);
                    due("told stays", x.word(7), 1);
                    due("code stays", x.word(4), 0x1c0);
                    due("place stays", x.word(5), 100);
                }
            }
        }
        // Memory: 1 + 3 + 2 + 1 of r, 24 codes each. Registers: op 1 29, op 3 60, op 4 16, op 5 40, op 6 15, ops 2 and 7 all.
        due("no codes", none, 7 * 24 + (7 + 8 + 4 + 1 + 1 + 3) + 60 + 16 + 40 + 15 + 128);
        due("refused", refused, 5);
        x = new PartnerStack();
        for (int code : new int[] {0xf0, 0xf1, 0xf2, 0xf3, 0xf9}) {
            due("refused " + code, x.execute(1, code, 0, 0), PartnerStack.REFUSED);
        }
    }

    // ---- promise 4: operations

    private static void sums() {
        answer(0x37f, ADD, 0x3fff, TOP, 0x3fff - 64, TOP);
        first("1 + 2^-64, a half", 0x3fff, TOP, 32);
        answer(0x37f, ADD, 0x3fff, TOP | 1, 0x3fff - 64, TOP);
        first("odd and a half", 0x3fff, TOP | 2, 32);
        answer(0x37f, ADD, 0x3fff, TOP, 0x3fff - 64, TOP | 1);
        first("more than a half", 0x3fff, TOP | 1, 32);
        answer(0x37f, MINUS_FIRST, 0x3fff, TOP, 0x3fff - 65, TOP);
        first("1 - 2^-65, a half", 0x3fff, TOP, 32);
        answer(0xb7f, ADD, 0x3fff, TOP, 1, TOP);
        first("up by very little", 0x3fff, TOP | 1, 32);
        answer(0x77f, MINUS_FIRST, 0x3fff, TOP, 1, TOP);
        first("down by very little", 0x3ffe, -1L, 32);
        answer(0x37f, MINUS_FIRST, 0x3fff, TOP, 0x3fff, TOP);
        first("x - x", 0, 0, 0);
        answer(0x77f, MINUS_FIRST, 0x3fff, TOP, 0x3fff, TOP);
        first("x - x, down", MINUS, 0, 0);
        answer(0x77f, ADD, 0, 0, 0, 0);
        first("0 + 0, down", 0, 0, 0);
        answer(0x37f, ADD, MINUS, 0, MINUS | 0x4000, 0);
        first("-0 + -0 unnormal", MINUS, 0, 0);
        answer(0x37f, MINUS_TURNED, 0x3fff, TOP, 0x4000, TOP);
        first("x - ST(0)", 0x3fff, TOP, 0);
        answer(0x07f, ADD, 0x3fff, TOP | 1L << 39, 0, 0);
        first("24 digits, a half", 0x3fff, TOP, 32);
        answer(0x27f, ADD, 0x3fff, TOP | 3L << 10, 0, 0);
        first("53 digits, a half", 0x3fff, TOP | 1L << 12, 32);
        answer(0x37f, ADD, 0x4010, 1, 0x4000, 3);
        first("unnormal ones go by size", 0x3fd1, 0x8001800000000000L, 0);
    }

    private static void productsAndQuotients() {
        answer(0x37f, TIMES, 0x3fff, -1L, MINUS | 0x3fff, -1L);
        first("(2 - 2^-63)^2", MINUS | 0x4000, -2L, 32);
        answer(0x37f, DIVIDE, 0x3fff, TOP, 0x4000, QUIET);
        first("1 / 3", 0x3ffd, 0xaaaaaaaaaaaaaaabL, 32);
        answer(0xf7f, DIVIDE, 0x3fff, TOP, 0x4000, QUIET);
        first("1 / 3 towards 0", 0x3ffd, 0xaaaaaaaaaaaaaaaaL, 32);
        answer(0x37f, DIVIDE_TURNED, 0x4000, QUIET, 0x3fff, TOP);
        first("ST(1) / ST(0)", 0x3ffd, 0xaaaaaaaaaaaaaaabL, 32);
        answer(0x37f, DIVIDE, 0x3fff, TOP, MINUS, 0);
        first("1 / -0", MINUS | INFINITE, TOP, 4);
        answer(0x37b, DIVIDE, 0x3fff, TOP, 0, 0);
        first("1 / 0 not masked", 0x3fff, TOP, 4);
        answer(0x37f, DIVIDE, 0, 0, 0x4000, 0);
        first("0 / 0 unnormal", MINUS | INFINITE, QUIET, 1);
        answer(0x37f, DIVIDE, 0x3fff, TOP, 0x4000, 1);
        first("by an unnormal one", MINUS | INFINITE, QUIET, 1);
        answer(0x37f, DIVIDE, 0x3fff, TOP, 1, 1);
        first("by an unnormal one of power 1", MINUS | INFINITE, QUIET, 1);
        answer(0x37f, DIVIDE, 0x4000, 1, 0x3fff, TOP);
        first("an unnormal one by 1", 0x4000 - 63, TOP, 0);
        answer(0x37f, TIMES, 0, 1, 0x3fff, TOP);
        first("a denormal one times 1", 0, 1, 2);
        answer(0x37d, TIMES, 0, 1, 0x4fff, TOP);
        first("denormal, not masked", 0, 1, 2);
        answer(0x37f, DIVIDE, 0, 1, 0, 0);
        first("denormal by 0", INFINITE, TOP, 6);
        answer(0x37f, TIMES, MINUS, 0, 0x3fff, TOP);
        first("-0 times 1", MINUS, 0, 0);
    }

    private static void overAndUnder() {
        answer(0x37f, TIMES, 0x7ffe, -1L, 0x4000, TOP);
        first("over, nearest", INFINITE, TOP, 40);
        answer(0xf7f, TIMES, 0x7ffe, -1L, 0x4000, TOP);
        first("over, towards 0", 0x7ffe, -1L, 40);
        answer(0x47f, TIMES, 0x7ffe, -1L, 0x4000, TOP);
        first("over, down, 24 digits", 0x7ffe, 0xffffff0000000000L, 40);
        answer(0x47f, TIMES, MINUS | 0x7ffe, -1L, 0x4000, TOP);
        first("over, down, minus", MINUS | INFINITE, TOP, 40);
        answer(0xb7f, TIMES, MINUS | 0x7ffe, -1L, 0x4000, TOP);
        first("over, up, minus", MINUS | 0x7ffe, -1L, 40);
        answer(0x377, TIMES, 0x7ffe, TOP, 0x4000, TOP);
        first("over, not masked", 0x7fff - 24576, TOP, 8);
        answer(0x277, ADD, 0x7ffe, -1L, 0, 0);
        first("over by rounding alone, not masked", 0x7fff - 24576, TOP, 40);
        answer(0x37f, TIMES, 1, TOP, 0x3ffe, TOP);
        first("under, but exact", 0, 1L << 62, 0);
        answer(0x37f, TIMES, 1, TOP | 1, 0x3ffe, TOP);
        first("under, half of the last digit", 0, 1L << 62, 48);
        answer(0x37f, TIMES, 1, -1L, 0x3ffe, TOP);
        first("under, rounded to a normal one's half", 1, TOP, 48);
        answer(0x36f, TIMES, 1, TOP, 0x3ffe, TOP);
        first("under, exact, not masked", 24576, TOP, 16);
        answer(0x26f, TIMES, 1, TOP | 1, 0x3ffe, TOP);
        first("under, not masked", 24576, TOP, 48);
        answer(0x07f, TIMES, 1, TOP, 0x3fff - 24, TOP);
        first("under with 24 digits: half of their last", 0, 0, 48);
        answer(0x87f, TIMES, 1, TOP, 0x3fff - 60, TOP);
        first("the same up", 0, 1L << 40, 48);
        answer(0x37f, TIMES, 1, TOP, 1, TOP);
        first("very small", 0, 0, 48);
        answer(0xb7f, TIMES, 1, TOP, 1, TOP);
        first("very small, up", 0, 1, 48);
    }

    private static void infiniteAndNoNumber() {
        answer(0x37f, ADD, INFINITE, TOP, INFINITE, TOP);
        first("one infinite number and it", MINUS | INFINITE, QUIET, 1);
        answer(0x137f, ADD, INFINITE, TOP, INFINITE, 0);
        first("two infinite ones, same sign", INFINITE, TOP, 0);
        answer(0x137f, MINUS_FIRST, INFINITE, TOP, INFINITE, 0);
        first("two infinite ones, sign turned", MINUS | INFINITE, QUIET, 1);
        answer(0x37f, MINUS_FIRST, 0x3fff, TOP, INFINITE, 0);
        first("1 - infinite", MINUS | INFINITE, TOP, 0);
        answer(0x37f, TIMES, INFINITE, TOP, 0x4000, 0);
        first("infinite times nothing", MINUS | INFINITE, QUIET, 1);
        answer(0x37f, DIVIDE, INFINITE, TOP, MINUS, 0);
        first("infinite by nothing", MINUS | INFINITE, TOP, 0);
        answer(0x37f, DIVIDE, MINUS | 0x3fff, TOP, INFINITE, TOP);
        first("-1 by infinite", MINUS, 0, 0);
        answer(0x37f, DIVIDE, INFINITE, TOP, INFINITE, TOP);
        first("infinite by infinite", MINUS | INFINITE, QUIET, 1);
        answer(0x37f, MINUS_FIRST, 0x3fff, TOP, INFINITE, 5);
        first("no number as it came", INFINITE, 5, 1);
        answer(0x37f, ADD, INFINITE, 7, INFINITE, QUIET);
        first("the greater fraction", INFINITE, QUIET, 1);
        answer(0x37f, ADD, MINUS | INFINITE, QUIET, INFINITE, QUIET);
        first("of equal ones that without the sign", INFINITE, QUIET, 1);
        answer(0x37e, ADD, INFINITE, QUIET, 0x3fff, TOP);
        first("not masked", INFINITE, QUIET, 1);
    }

    private static void roots() {
        answer(0x37f, ROOT, 0x4000, TOP, 0, 0);
        first("root of 2", 0x3fff, 0xb504f333f9de6484L, 32);
        answer(0xb7f, ROOT, 0x4000, TOP, 0, 0);
        first("root of 2, up", 0x3fff, 0xb504f333f9de6485L, 32);
        answer(0x37f, ROOT, 0x4001, TOP, 0, 0);
        first("root of 4", 0x4000, TOP, 0);
        answer(0x37f, ROOT, MINUS | 0x4001, 0, 0, 0);
        first("root of -0 unnormal", MINUS, 0, 0);
        answer(0x37f, ROOT, MINUS | 0x4001, TOP, 0, 0);
        first("root of -4", MINUS | INFINITE, QUIET, 1);
        answer(0x37f, ROOT, 0x4001, 1, 0, 0);
        first("root of an unnormal one", MINUS | INFINITE, QUIET, 1);
        answer(0x37f, ROOT, INFINITE, TOP, 0, 0);
        first("root of the one infinite number", MINUS | INFINITE, QUIET, 1);
        answer(0x137f, ROOT, INFINITE, 0, 0, 0);
        first("root of infinite", INFINITE, TOP, 0);
        answer(0x37f, ROOT, 0, 1L << 61, 0, 0);
        first("root of a denormal one", 0x2000 - 1, TOP, 2);
    }

    // ---- promise 4: steps

    private static void wholeAndScale() {
        answer(0x37f, WHOLE, 0x4000, 0xa000000000000000L, 0, 0);
        first("2.5 whole", 0x4000, TOP, 32);
        answer(0xb7f, WHOLE, 0x4000, 0xa000000000000000L, 0, 0);
        first("2.5 up", 0x4000, QUIET, 32);
        answer(0x07f, WHOLE, 0x403e, -1L, 0, 0);
        first("64 digits, whatever the precision", 0x403e, -1L, 0);
        answer(0x37f, WHOLE, MINUS | 0x3ffe, TOP, 0, 0);
        first("-0.5 whole", MINUS, 0, 32);
        answer(0x37f, WHOLE, INFINITE, 0, 0, 0);
        first("infinite is itself", INFINITE, 0, 0);
        answer(0xb7f, WHOLE, 0, 1, 0, 0);
        first("a denormal one, up", 0x3fff, TOP, 34);
        answer(0x37f, SCALE, 0x3fff, QUIET, MINUS | 0x4000, 0xe000000000000000L);
        first("1.5 by 2^-3", 0x3fff - 3, QUIET, 0);
        answer(0x37f, SCALE, 0x3fff, TOP, 0x400d, TOP);
        first("by 2^14: can't be", MINUS | INFINITE, QUIET, 1);
        answer(0x37f, SCALE, 0x3fff, TOP, 0x400c, -1L);
        first("by 2^14 less a bit", 0x3fff + 16383, TOP, 0);
        answer(0x37f, SCALE, 0x4000, TOP, 0x400c, -1L);
        first("over", INFINITE, TOP, 40);
        answer(0x37f, SCALE, INFINITE, 0, MINUS, 1);
        first("infinite, by a denormal one", INFINITE, 0, 2);
        answer(0x37f, SCALE, 0, 0, INFINITE, TOP);
        first("by infinite", MINUS | INFINITE, QUIET, 1);
    }

    private static void extracts() {
        answer(0x37f, EXTRACT, MINUS | 0x3ffa, 0xe000000000000000L, 0, 0);
        first("fraction", MINUS | 0x3fff, 0xe000000000000000L, 0);
        due("power -5", x.part(1, 0), MINUS | 0x4001);
        due("power -5", x.part(1, 1), 0xa0000000L << 32 >> 32);
        answer(0x37f, EXTRACT, 0x3fff, TOP, 0, 0);
        due("power 0", x.part(1, 0), 0);
        answer(0x37f, EXTRACT, MINUS, 0, 0, 0);
        first("fraction of -0", MINUS, 0, 4);
        due("power of 0", x.part(1, 0), MINUS | INFINITE);
        answer(0x37b, EXTRACT, MINUS, 0, 0, 0);
        first("of 0, not masked", MINUS, 0, 4);
        due("nothing pushed", x.word(1) >> 11 & 7, 6);
        answer(0x37f, EXTRACT, MINUS | INFINITE, 0, 0, 0);
        first("infinite is its fraction", MINUS | INFINITE, 0, 0);
        due("power of infinite", x.part(1, 0), INFINITE);
        due("power of infinite", x.part(1, 1), Integer.MIN_VALUE);
        fresh(0x37f);
        run(ONE, ONE, ONE, ONE, ONE, ONE, ONE, 0x1eb, EXTRACT);
        first("full: INDEFINITE in the fraction's stead", MINUS | INFINITE, QUIET, 1);
        due("and the power of pi", x.part(1, 0), 0x3fff);
        fresh(0x37f);
        run(EXTRACT);
        first("of an EMPTY one", MINUS | INFINITE, QUIET, 1);
        due("its power", x.part(1, 1), 0xc0000000);
        fresh(0x37c);
        run(ONE, ONE, ONE, ONE, ONE, ONE, ONE);
        push(0, 1);
        run(EXTRACT);
        first("full, not masked: before the step", 0, 1, 1);
    }

    private static void remainders() {
        answer(0x37f, REMAINDER, 0x4002, 0xe000000000000000L, 0x4000, QUIET);
        first("14 by 3: 2 is left", 0x4000, TOP, 0);
        due("4: C0", x.word(1) & 0x4700, 0x100);
        answer(0x37f, REMAINDER, MINUS | 0x4001, 0xe000000000000000L, 0x3fff, TOP);
        first("-7 by 1: -0", MINUS, 0, 0);
        due("7: all but C2", x.word(1) & 0x4700, 0x4300);
        answer(0x37f, REMAINDER, 0x3fff, TOP, MINUS | 0x4000, QUIET);
        first("1 by -3", 0x3fff, TOP, 0);
        due("0", x.word(1) & 0x4700, 0);
        answer(0x37f, REMAINDER, 0x3fff + 64, TOP, 0x3fff, QUIET);
        first("2^64 by 1.5: partial, 3 is taken off", 0x3fff, TOP, 0);
        due("C2", x.word(1) & 0x400, 0x400);
        answer(0x37f, REMAINDER, 0x3fff + 63, TOP, 0x3fff, QUIET);
        due("2^63 by 1.5 is not partial", x.word(1) & 0x400, 0);
        answer(0x37f, REMAINDER, 0x4000, 2, INFINITE, TOP);
        first("by infinite: made", 0x4000 - 62, TOP, 0);
        answer(0x37f, REMAINDER, 0x3fff, TOP, 0x3fff, 1);
        first("by an unnormal one", MINUS | INFINITE, QUIET, 1);
        answer(0x37f, REMAINDER, INFINITE, TOP, 0x3fff, TOP);
        first("of infinite", MINUS | INFINITE, QUIET, 1);
        answer(0x36f, REMAINDER, 0, 1, 0x3fff, TOP);
        first("under, not masked", 24576 + 1 - 63, TOP, 18);
    }

    private static void compared(String what, int control, int topA, long a, int topB, long b, int want) {
        fresh(control);
        push(topB, b);
        push(MINUS, 0);
        run(EXAMINE, 0x5d8);
        push(topA, a);
        run(COMPARE);
        due(what, x.word(1) & 0x4700, 0x200 | want);
    }

    private static void comparisons() {
        compared("1 and 2", 0x37f, 0x3fff, TOP, 0x4000, TOP, 0x100);
        compared("2 and 1", 0x37f, 0x4000, TOP, 0x3fff, TOP, 0);
        compared("-1 and 1", 0x37f, MINUS | 0x3fff, TOP, 0x3fff, TOP, 0x100);
        compared("-1 and -2", 0x37f, MINUS | 0x3fff, TOP, MINUS | 0x4000, TOP, 0);
        compared("zeros", 0x37f, MINUS, 0, 0x4000, 0, 0x4000);
        compared("unnormal and normal", 0x37f, 0x4000, 1L << 62, 0x3fff, TOP, 0x4000);
        compared("no number", 0x37f, INFINITE, 1, 0x3fff, TOP, 0x4500);
        compared("infinite, one of them", 0x37f, INFINITE, TOP, 0x3fff, TOP, 0x4500);
        compared("two infinite, one number", 0x37f, INFINITE, TOP, MINUS | INFINITE, 0, 0x4000);
        compared("two infinite, two numbers", 0x137f, INFINITE, TOP, MINUS | INFINITE, 0, 0);
        compared("1 and infinite", 0x137f, 0x3fff, TOP, INFINITE, TOP, 0x100);
        compared("infinite and 1", 0x137f, MINUS | INFINITE, TOP, 0x3fff, TOP, 0x100);
        fresh(0x37d);
        push(0, 1);
        run(TEST);
        due("denormal, not masked, ends", x.word(1) & 0x47ff, 0x82);
        fresh(0x37f);
        push(MINUS | 0x3fff, TOP);
        run(TEST);
        due("-1 and 0", x.word(1) & 0x4700, 0x100);
        fresh(0x37f);
        run(ONE, ONE, 0x6d9);
        due("the same, popped twice", x.word(1), 0x4000);
        due("all EMPTY", x.word(2), 0xffff);
        bytes(3, 0);
        fresh(0x37f);
        run(ONE);
        bytes(3, 0);
        run(0x618);
        due("1 and 3 of memory, popped", x.word(1), 0x100);
    }

    // ---- promise 4: formats

    private static void read(String what, int control, int code, long low, int high, int top, long fraction, int told) {
        fresh(control);
        bytes(low, high);
        run(code);
        first(what, top, fraction, told);
    }

    private static void readings() {
        read("-2^15", 0x37f, PUSH_16, 0x8000, 0, MINUS | 0x3fff + 15, TOP, 0);
        read("-2^31", 0x37f, PUSH_32, 0x80000000L, 0, MINUS | 0x3fff + 31, TOP, 0);
        read("-2^63", 0x37f, PUSH_64, TOP, 0, MINUS | 0x3fff + 63, TOP, 0);
        read("0 of 64 bits", 0x37f, PUSH_64, 0, 0xffff, 0, 0, 0);
        read("1.5 SHORT", 0x37f, PUSH_SHORT, 0x3fc00000L, 0, 0x3fff, QUIET, 0);
        read("-0 SHORT", 0x37f, PUSH_SHORT, 0x80000000L, 0, MINUS, 0, 0);
        read("denormal SHORT", 0x37f, PUSH_SHORT, 1, 0, 0x3fff - 149, TOP, 2);
        read("infinite SHORT", 0x37f, PUSH_SHORT, 0xff800000L, 0, MINUS | INFINITE, TOP, 0);
        read("no number SHORT", 0x37f, PUSH_SHORT, 0x7f800001L, 0, INFINITE, TOP | 1L << 40, 0);
        read("-1 LONG", 0x37f, PUSH_LONG, 0xbff0000000000000L, 0, MINUS | 0x3fff, TOP, 0);
        read("denormal LONG", 0x37f, PUSH_LONG, 1, 0, 0x3fff - 1074, TOP, 2);
        read("no number LONG", 0x37f, PUSH_LONG, 0xfff0000000000001L, 0, MINUS | INFINITE, TOP | 1L << 11, 0);
        read("decimals 123", 0x37f, PUSH_DECIMALS, 0x0123, 0x7f00, 0x4005, 0xf600000000000000L, 0);
        read("-0 decimals", 0x37f, PUSH_DECIMALS, 0, 0x8000, MINUS, 0, 0);
        read("four bits above 9", 0x37f, PUSH_DECIMALS, 0xff, 0, 0x4006, 0xa500000000000000L, 0);
        read("denormal, not masked", 0x37d, PUSH_SHORT, 1, 0, 0, 0, 2);
        due("nothing pushed", x.word(2), 0xffff);
        fresh(0x37f);
        run(ONE);
        bytes(0x40000000, 0);
        run(0x030);
        first("1 / 2 SHORT", 0x3ffe, TOP, 0);
        bytes(3, 0);
        run(0x208);
        first("times 3", 0x3fff, QUIET, 0);
        bytes(0x4008000000000000L, 0);
        run(0x428);
        first("3 LONG - 1.5", 0x3fff, QUIET, 0);
        bytes(0xffff, 0);
        run(0x600);
        first("-1 of 16 bits", 0x3ffe, TOP, 0);
    }

    private static void written(String what, int control, int code, int top, long fraction, long want, int told) {
        fresh(control);
        push(top, fraction);
        bytes(0x5a5a5a5a5a5a5a5aL, 0x5a5a5a5a);
        run(code);
        due(what, memoryBits(0, 8), want);
        due(what + ": told", x.word(7), told);
    }

    private static void writings() {
        long rest = 0x5a5a5a5a5a5a5a5aL;
        long rest32 = 0x5a5a5a5a00000000L;
        long rest16 = 0x5a5a5a5a5a5a0000L;
        written("2.5 as 16 bits", 0x37f, WRITE_16, 0x4000, 0xa000000000000000L, rest16 | 2, 32);
        written("-2^15", 0x37f, WRITE_16, MINUS | 0x3fff + 15, TOP, rest16 | 0x8000, 0);
        written("2^15", 0x37f, WRITE_16, 0x3fff + 15, TOP, rest16 | 0x8000, 1);
        written("2^15 - 1/2", 0x37f, WRITE_16, 0x3fff + 14, 0xffff000000000000L, rest16 | 0x8000, 1);
        written("-2^15 - 1/2", 0x37f, WRITE_16, MINUS | 0x3fff + 15, TOP | 1L << 47, rest16 | 0x8000, 32);
        written("2^31, not masked", 0x37e, WRITE_32, 0x3fff + 31, TOP, rest, 1);
        written("-2^63", 0x37f, WRITE_64_POP, MINUS | 0x3fff + 63, TOP, TOP, 0);
        written("2^63", 0x37f, WRITE_64_POP, 0x3fff + 63, TOP, TOP, 1);
        written("2^63 - 1", 0x37f, WRITE_64_POP, 0x3fff + 62, -2L, Long.MAX_VALUE, 0);
        written("infinite", 0x37f, WRITE_32, INFINITE, TOP, rest32 | 0x80000000L, 1);
        written("denormal, up", 0xb7f, WRITE_32, 0, 1, rest32 | 1, 32);
        written("1.5 SHORT", 0x37f, WRITE_SHORT, 0x3fff, QUIET, rest32 | 0x3fc00000L, 0);
        written("a half of SHORT's last", 0x37f, WRITE_SHORT, 0x3fff, TOP | 3L << 39, rest32 | 0x3f800002L, 32);
        written("-0 unnormal", 0x37f, WRITE_SHORT, MINUS | 0x3fff, 0, rest32 | 0x80000000L, 0);
        written("unnormal", 0x37f, WRITE_SHORT, 0x3fff, 1, rest32 | 0xffc00000L, 1);
        written("unnormal LONG", 0x37f, WRITE_LONG, 0x3fff, 1, 0xfff8000000000000L, 1);
        written("no number, lower bits alone", 0x37f, WRITE_SHORT, INFINITE, TOP | 1, rest32 | 0x7f800001L, 1);
        written("no number SHORT", 0x37f, WRITE_SHORT, INFINITE, QUIET, rest32 | 0x7fc00000L, 1);
        written("no number LONG", 0x37f, WRITE_LONG, MINUS | INFINITE, QUIET, 0xfff8000000000000L, 1);
        written("infinite LONG", 0x37f, WRITE_LONG, MINUS | INFINITE, 0, 0xfff0000000000000L, 0);
        written("least SHORT", 0x37f, WRITE_SHORT, 0x3fff - 149, TOP, rest32 | 1, 0);
        written("half of it", 0x37f, WRITE_SHORT, 0x3fff - 150, TOP, rest32, 48);
        written("half of it, up", 0xb7f, WRITE_SHORT, 0x3fff - 150, TOP, rest32 | 1, 48);
        written("up to the least full one", 0x37f, WRITE_SHORT, 0x3fff - 127, -1L, rest32 | 0x800000L, 48);
        written("under, not masked", 0x36f, WRITE_SHORT, 0x3fff - 149, TOP, rest, 16);
        written("over", 0x37f, WRITE_SHORT, 0x3fff + 128, TOP, rest32 | 0x7f800000L, 40);
        written("over by rounding", 0x37f, WRITE_SHORT, 0x3fff + 127, -1L, rest32 | 0x7f800000L, 40);
        written("over, down", 0x77f, WRITE_LONG, 0x7ffe, TOP, 0x7fefffffffffffffL, 40);
        written("over, down, minus", 0x77f, WRITE_LONG, MINUS | 0x7ffe, TOP, 0xfff0000000000000L, 40);
        written("over, not masked", 0x377, WRITE_LONG, 0x7ffe, TOP, rest, 8);
        written("denormal LONG", 0x37f, WRITE_LONG, 0, 1, 0, 48);
        written("decimals", 0xb7f, WRITE_DECIMALS_POP, MINUS | 0x4005, 0xf700000000000000L, 0x0123, 32);
        due("their sign", x.byteAt(9), 0x80);
        written("the greatest", 0x37f, WRITE_DECIMALS_POP, 0x403a, 0xde0b6b3a763ffff0L, 0x9999999999999999L, 0);
        written("10^18", 0x37f, WRITE_DECIMALS_POP, 0x403a, 0xde0b6b3a76400000L, 0xc000000000000000L, 1);
        due("byte 8", x.byteAt(8), 255);
        due("byte 9", x.byteAt(9), 255);
        written("10^18, not masked", 0x37e, WRITE_DECIMALS_POP, 0x403a, 0xde0b6b3a76400000L, rest, 1);
        due("not popped", x.word(1) >> 11, 7);
        written("a pattern", 0x37e, WRITE_PATTERN_POP, INFINITE, 5, 5, 0);
        due("its top", memoryBits(8, 2), INFINITE);
        due("popped", x.word(2), 0xffff);
        fresh(0x37f);
        run(WRITE_SHORT_POP);
        due("an EMPTY one", memoryBits(0, 4), 0xffc00000L);
        due("popped all the same", x.word(1), 0x801);
    }

    // ---- promise 4: the stack and the rest of the codes

    private static void stack() {
        fresh(0x37f);
        run(ONE, 0x1ee, 0x1c9);
        first("changed places", 0x3fff, TOP, 0);
        due("and the other", x.part(1, 0), 0);
        run(0x1e0);
        first("sign turned", MINUS | 0x3fff, TOP, 0);
        run(0x1e1);
        first("taken away", 0x3fff, TOP, 0);
        run(0x5d2);
        due("ST(2) not EMPTY", x.word(2), 0x4ffc);
        run(0x5c1);
        due("ST(1) EMPTY", x.word(2), 0xcffc);
        run(0x1c1);
        first("an EMPTY one pushed", MINUS | INFINITE, QUIET, 1);
        run(0x1f7, 0x1f7);
        due("TOP more", x.word(1) >> 11 & 7, 7);
        run(0x1f6, 0x1f6, 0x1f6, 0x1f6, 0x1f6, 0x1f6, 0x1f6, 0x1f6, 0x1f6);
        due("TOP less", x.word(1) >> 11 & 7, 6);
        fresh(0x37f);
        run(ONE, ONE, ONE, ONE, ONE, ONE, ONE, ONE);
        bytes(1, 0);
        run(PUSH_SHORT);
        first("full, before it is read", MINUS | INFINITE, QUIET, 1);
        fresh(0x37c);
        run(ONE, ONE, ONE, ONE, ONE, ONE, ONE, ONE);
        bytes(1, 0);
        run(PUSH_SHORT);
        first("full, not masked", 0x3fff, TOP, 1);
        due("TOP stays", x.word(1), 0x81);
        due("the code is kept", x.word(4), 0x100);
        fresh(0x37f);
        run(0x1e0);
        first("an EMPTY one's sign turned", INFINITE, QUIET, 1);
        fresh(0x37f);
        run(ONE, 0x1eb, 0x4e1);
        due("ST(1) is pi - 1", x.part(1, 1), 0x890fdaa2);
        run(0x6f9);
        first("ST(1) / ST(0), popped", 0x3ffe, 0xae833e48d8ddf56bL, 32);
        due("told before", x.word(1) & 63, 32);
    }

    private static void examined() {
        int[] tops = {0, 0, 0x3fff, 0x3fff, 0x3fff, INFINITE, INFINITE};
        long[] fractions = {0, TOP, 0, 1, TOP, 0, 1};
        int[] seen = {0x4000, 0x4400, 0, 0, 0x400, 0x500, 0x100};
        int[] tags = {1, 2, 1, 2, 0, 2, 2};
        for (int i = 0; i < tops.length; i++) {
            for (int sign = 0; sign < 2; sign++) {
                fresh(0x37e);
                push(tops[i] | sign << 15, fractions[i]);
                run(EXAMINE);
                due("examined " + i, x.word(1) & 0x4700, seen[i] | sign << 9);
                due("tag " + i, x.word(2), 0x3fff | tags[i] << 14);
            }
        }
        fresh(0x37e);
        run(EXAMINE);
        due("EMPTY", x.word(1), 0x4100);
    }

    private static void constants() {
        int[] tops = {0x3fff, 0x4000, 0x3fff, 0x4000, 0x3ffd, 0x3ffe, 0};
        long[] fractions = {TOP, 0xd49a784bcd1b8afeL, 0xb8aa3b295c17f0bcL, 0xc90fdaa22168c235L,
            0x9a209a84fbcff799L, 0xb17217f7d1cf79acL, 0};
        for (int i = 0; i < 7; i++) {
            fresh(0x47f);
            run(ONE + i);
            first("constant " + i, tops[i], fractions[i], 0);
        }
    }

    private static void controls() {
        fresh(0xffff);
        due("all bits are kept", x.word(0), 0xffff);
        run(0x3e0);
        due("bit 7 not set", x.word(0), 0xff7f);
        run(0x3e1);
        due("bit 7 set", x.word(0), 0xffff);
        due("no pointers are kept", x.word(4), 0);
        run(0x1c9, WRITE_STATUS);
        due("the status is written", memoryBits(0, 2), 1);
        run(WRITE_CONTROL);
        due("the control is written", memoryBits(0, 2), 0xffff);
        due("the last told nothing", x.word(7), 0);
        x.memory(0, 0x37e);
        run(READ_CONTROL);
        due("no longer masked", x.word(1), 0x81);
        due("a REQUEST", x.word(3), 1);
        run(0x3e1);
        due("none", x.word(3), 0);
        run(CLEAR);
        due("cleared", x.word(1), 0);
        due("pointers stay", x.word(4), 0x1c9);
        run(ONE, EXAMINE, INITIAL);
        due("INITIAL control", x.word(0), 0x3ff);
        due("INITIAL status", x.word(1), 0);
        due("INITIAL tags", x.word(2), 0xffff);
        due("INITIAL code", x.word(4), 0);
        due("INITIAL place", x.word(5), 0);
        due("INITIAL operand", x.word(6), 0);
        due("what is in them stays", x.part(7, 0), 0x3fff);
    }

    private static void environments() {
        fresh(0x37f);
        run(ONE);
        x.execute(0, 0xf9, 0x54321, 0x98765);
        run(WRITE_ENVIRONMENT);
        int[] words = {0x37f, x.word(1), x.word(2), 0x4321, 0x50f9, 0x8765, 0x9000};
        for (int i = 0; i < 7; i++) {
            due("environment " + i, memoryBits(2 * i, 2), words[i]);
        }
        x.memory(0, 0xffff137e);
        x.memory(4, 0x12342dc3);
        x.memory(8, 0xabcdfedc);
        x.memory(12, 0x00007fff);
        run(READ_ENVIRONMENT);
        due("control", x.word(0), 0x137e);
        due("status", x.word(1), 0x7fbf);
        due("tags: only 3 counts", x.word(2), 0x9dd7);
        due("code", x.word(4), 0x6dc);
        due("place", x.word(5), 0xf1234);
        due("operand", x.word(6), 0x7abcd);
        due("nothing told", x.word(7), 0);
    }

    private static void wholeStates() {
        fresh(0x37f);
        run(ONE, 0x1eb, 0x1f7);
        run(SAVE);
        due("ST(0) first", memoryBits(14, 8), TOP);
        due("ST(7) last", memoryBits(84, 8), 0xc90fdaa22168c235L);
        due("its top", memoryBits(92, 2), 0x4000);
        due("then INITIAL", x.word(2), 0xffff);
        run(RESTORE);
        first("brought back", 0x3fff, TOP, 0);
        due("TOP", x.word(1), 0x3800);
        due("tags", x.word(2), 0x0fff);
        due("code", x.word(4), 0x1f7);
    }

    // ---- promises 5 to 7

    private static void needs() {
        int[][] some = {{0x000, 4}, {0x2b8, 4}, {0x418, 8}, {0x600, 2}, {0x100, 4}, {0x108, 0}, {0x110, -4}, {0x118, -4},
            {0x120, 14}, {0x128, 2}, {0x130, -14}, {0x138, -2}, {0x300, 4}, {0x310, -4}, {0x320, 0}, {0x328, 10},
            {0x330, 0}, {0x338, -10}, {0x540, 8}, {0x518, -8}, {0x520, 94}, {0x528, 0}, {0x530, -94}, {0x538, -2},
            {0x700, 2}, {0x718, -2}, {0x720, 10}, {0x728, 8}, {0x730, -10}, {0x738, -8}, {0x0c0, 0}, {0x1f0, 0},
            {0x2c0, 0}, {0x7ff, 0}};
        x = new PartnerStack();
        for (int[] one : some) {
            due("needs " + Integer.toHexString(one[0]), x.needs(one[0] >> 8, one[0] & 255), one[1]);
        }
        for (int[] c : new int[][] {{-1, 0}, {8, 0}, {0, -1}, {0, 256}, {Integer.MAX_VALUE, Integer.MIN_VALUE}}) {
            int kind = 0;
            try {
                x.needs(c[0], c[1]);
            } catch (IllegalArgumentException e) {
                kind = 1;
            }
            due("needs throws", kind, 1);
        }
    }

    private static void wordsAndParts() {
        fresh(0x35f);
        push(0x4000, TOP | 1);
        run(ONE, 0x1d0);
        due("a code that tells nothing", x.word(7), 0);
        due("LOSS told, not masked", x.word(1), 0x3000);
        run(DIVIDE);
        due("LOSS", x.word(7), 32);
        due("bit 7", x.word(1), 0x30a0);
        due("REQUEST", x.word(3), 1);
        due("NO CODE is none", x.execute(2, 192, 0, 0), PartnerStack.NO_CODE);
        due("told as before", x.word(7), 32);
        for (int what : new int[] {-1, 8, Integer.MIN_VALUE}) {
            int kind = 0;
            try {
                x.word(what);
            } catch (IllegalArgumentException e) {
                kind = 1;
            }
            due("word throws", kind, 1);
        }
        int[][] calls = {{-1, 0, 1}, {8, 0, 1}, {8, 3, 1}, {-1, -1, 1}, {0, 3, 2}, {7, -1, 2}, {7, 2, 0}};
        for (int[] c : calls) {
            int kind = 0;
            try {
                x.part(c[0], c[1]);
            } catch (IndexOutOfBoundsException e) {
                kind = 1;
            } catch (IllegalArgumentException e) {
                kind = 2;
            }
            due("part throws", kind, c[2]);
        }
        x = new PartnerStack();
        push(MINUS | 0x1234, 0x89abcdef01234567L);
        run(0x5c0);
        due("EMPTY or not: top", x.part(0, 0), 0x9234);
        due("upper half", x.part(0, 1), 0x89abcdef);
        due("lower half", x.part(0, 2), 0x01234567);
    }

    public static void main(String[] args) {
        newObject();
        memoryAndBytes();
        wrongCalls();
        codesAndNone();
        sums();
        productsAndQuotients();
        overAndUnder();
        infiniteAndNoNumber();
        roots();
        wholeAndScale();
        extracts();
        remainders();
        comparisons();
        readings();
        writings();
        stack();
        examined();
        constants();
        controls();
        environments();
        wholeStates();
        needs();
        wordsAndParts();
        System.out.println(asked + " answers, " + wrong + " wrong");
        System.exit(wrong == 0 ? 0 : 1);
    }
}
