/** The boundaries that the document names for each call: promises 1 to 7, and what a throwing call leaves. */
public final class BoundariesOfCallsTest extends Bench {
    private static final int INDEX = 1;
    private static final int ARGUMENT = 2;
    private static final int[] FAR = {Integer.MIN_VALUE, Integer.MIN_VALUE + 1, -65536, -256, -2, -1};

    /** An object of which everything is other than in a new one. */
    private static void used() {
        givenFull(0x7f3e, "-7fff:0+1");
        run(TOP_MORE, TOP_MORE, FREE + 2);
        setConditions(C0 | C3);
        for (int i = 0; i < 94; i++) {
            put(i, 1, 3 * i + 1);
        }
        run(COMPARE_POP);
        run(WHOLE, 0x6c5);
        x.execute(1, 0xe0 + 5, 0xfffff, 0xabcde);
        x.execute(0, 0xc2, 0xfffff, 0xabcde);
    }

    private static void newObject() {
        sentence("PartnerStack(): INITIAL, all registers ZERO, memory 0.");
        x = new PartnerStack();
        int[] now = seen();
        for (int i = 0; i < now.length; i++) {
            due("what is seen at " + i, now[i], i == 0 ? 0x3ff : i == 2 ? 0xffff : 0);
        }
        used();
        PartnerStack other = x;
        int[] before = seen();
        x = new PartnerStack();
        due("another new one", x.word(0), 0x3ff);
        due("its memory", x.byteAt(93), 0);
        due("its registers", x.part(0, 0), 0);
        x = other;
        unchanged("the first one, beside it", before);
    }

    private static void memory() {
        sentence("Four bytes of memory from i on, the lowest bits first.");
        for (int i = 0; i <= 90; i++) {
            x = new PartnerStack();
            x.memory(i, 0xfe8001ff);
            int[] want = {0xff, 0x01, 0x80, 0xfe};
            for (int at = 0; at < 94; at++) {
                due("byte " + at, x.byteAt(at), at >= i && at < i + 4 ? want[at - i] : 0);
            }
        }
        x = new PartnerStack();
        x.memory(0, -1);
        x.memory(2, 0);
        due("over the others", memoryBits(0, 6), 0xffff);
        sentence("IndexOutOfBoundsException when i is not 0 .. 90.");
        used();
        for (int i : FAR) {
            refuses("memory(" + i + ")", () -> x.memory(i, 0x01020304), INDEX);
        }
        for (int i : new int[] {91, 92, 93, 94, 95, 256, 65536, Integer.MAX_VALUE - 3, Integer.MAX_VALUE}) {
            refuses("memory(" + i + ")", () -> x.memory(i, 0x01020304), INDEX);
        }
        due("memory(0)", thrown(() -> x.memory(0, 0)), 0);
        due("memory(90)", thrown(() -> x.memory(90, 0)), 0);
    }

    private static void byteAt() {
        sentence("Byte i of memory.");
        for (int value = 0; value < 256; value += 15) {
            x = new PartnerStack();
            fill(value);
            due("byte 0", x.byteAt(0), value);
            due("byte 93", x.byteAt(93), value);
        }
        sentence("byteAt(int i) throws IndexOutOfBoundsException");
        used();
        for (int i : FAR) {
            refuses("byteAt(" + i + ")", () -> x.byteAt(i), INDEX);
        }
        for (int i : new int[] {94, 95, 256, Integer.MAX_VALUE}) {
            refuses("byteAt(" + i + ")", () -> x.byteAt(i), INDEX);
        }
    }

    private static void execute() {
        sentence("IllegalArgumentException when op is not 0 .. 7, code not 0 .. 255, or a place not 0 .. 2^20 - 1.");
        used();
        int[] codes = {0x00, 0xc1, 0xe8, 0xf0, 0xff};
        for (int wrong : FAR) {
            for (int code : codes) {
                refuses("op " + wrong, () -> x.execute(wrong, code, 0, 0), ARGUMENT);
                refuses("code's place " + wrong, () -> x.execute(1, code, wrong, 0), ARGUMENT);
                refuses("operand's place " + wrong, () -> x.execute(1, code, 0, wrong), ARGUMENT);
            }
            refuses("code " + wrong, () -> x.execute(1, wrong, 0, 0), ARGUMENT);
        }
        for (int op : new int[] {8, 9, 16, 256, Integer.MAX_VALUE}) {
            refuses("op " + op, () -> x.execute(op, 0xc1, 0, 0), ARGUMENT);
        }
        for (int code : new int[] {256, 257, 512, 0x1e8, Integer.MAX_VALUE}) {
            refuses("code " + code, () -> x.execute(1, code, 0, 0), ARGUMENT);
        }
        for (int place : new int[] {1 << 20, (1 << 20) + 1, 1 << 21, 1 << 24, Integer.MAX_VALUE}) {
            refuses("code's place " + place, () -> x.execute(1, 0xd0, place, 0), ARGUMENT);
            refuses("operand's place " + place, () -> x.execute(1, 0xd0, 0, place), ARGUMENT);
            refuses("both, and a code that keeps none", () -> x.execute(3, 0xe3, place, place), ARGUMENT);
            refuses("NO CODE", () -> x.execute(2, 0xc0, place, 0), ARGUMENT);
            refuses("REFUSED", () -> x.execute(1, 0xf0, 0, place), ARGUMENT);
        }
        refuses("all of them", () -> x.execute(-1, 256, -1, 1 << 20), ARGUMENT);
        for (int place : new int[] {0, 1, 0xffff, 0x10000, (1 << 20) - 1}) {
            due("place " + place, x.execute(1, 0xd0, place, (1 << 20) - 1 - place), PartnerStack.DONE);
            due("code's place", x.word(5), place);
            due("operand's place", x.word(6), (1 << 20) - 1 - place);
        }
        sentence("DONE (also when it ENDS), NO_CODE or REFUSED (then nothing changes)");
        given(N64 & ~63);
        due("it ENDS", tryCode(ADD), PartnerStack.DONE);
        told(INVALID);
        used();
        int[] before = seen();
        due("NO CODE", x.execute(2, 0xc0, 1, 2), PartnerStack.NO_CODE);
        unchanged("NO CODE", before);
        due("REFUSED", x.execute(1, 0xf9, 1, 2), PartnerStack.REFUSED);
        unchanged("REFUSED", before);
    }

    private static void needs() {
        sentence("How many bytes of memory a code reads, or below 0, writes (when it does not END); 0 for others and NO_CODE.");
        int[][] want = {
            {4, 4, 4, 4, 4, 4, 4, 4}, {4, 0, -4, -4, 14, 2, -14, -2}, {4, 4, 4, 4, 4, 4, 4, 4}, {4, 0, -4, -4, 0, 10, 0, -10},
            {8, 8, 8, 8, 8, 8, 8, 8}, {8, 0, -8, -8, 94, 0, -94, -2}, {2, 2, 2, 2, 2, 2, 2, 2}, {2, 0, -2, -2, 10, 8, -10, -8}};
        used();
        int[] before = seen();
        for (int op = 0; op < 8; op++) {
            for (int code = 0; code < 256; code++) {
                due("needs " + op + " " + code, x.needs(op, code), code < 192 ? want[op][code >> 3 & 7] : 0);
            }
        }
        unchanged("needs", before);
        needsAsDone();
        sentence("IllegalArgumentException when op is not 0 .. 7, or code not 0 .. 255.");
        used();
        for (int wrong : FAR) {
            refuses("op " + wrong, () -> x.needs(wrong, 0), ARGUMENT);
            refuses("code " + wrong, () -> x.needs(0, wrong), ARGUMENT);
        }
        for (int wrong : new int[] {8, 9, 256, Integer.MAX_VALUE}) {
            refuses("op " + wrong, () -> x.needs(wrong, 255), ARGUMENT);
        }
        for (int wrong : new int[] {256, 257, 512, Integer.MAX_VALUE}) {
            refuses("code " + wrong, () -> x.needs(7, wrong), ARGUMENT);
        }
    }

    /** What a code writes can be seen: fill memory with two things, and count what is the same after it. */
    private static void needsAsDone() {
        for (int op = 0; op < 8; op++) {
            for (int code = 0; code < 192; code += 8) {
                int stays = 0;
                for (int at = 0; at < 94; at++) {
                    stays += byteAfter(op, code, at, 0x00) == 0x00 && byteAfter(op, code, at, 0xff) == 0xff ? 1 : 0;
                }
                due("bytes written by " + op + " " + code, 94 - stays, Math.max(0, -x.needs(op, code)));
            }
        }
    }

    private static int byteAfter(int op, int code, int at, int value) {
        x = new PartnerStack();
        x.execute(1, 0xe8, 0, 0);
        for (int i = 0; i < 92; i += 4) {
            x.memory(i, value * 0x01010101);
        }
        x.memory(90, value * 0x01010101);
        x.execute(op, code, 0, 0);
        return x.byteAt(at);
    }

    private static void word() {
        sentence("7 what the last code that was done told (0, if that was nothing; NO CODE and REFUSED are none)");
        given(N64, "1", "0");
        run(BY);
        told(DIVISION);
        due("NO CODE", tryCode(0x2c0), PartnerStack.NO_CODE);
        told(DIVISION);
        due("REFUSED", tryCode(0x1f0), PartnerStack.REFUSED);
        told(DIVISION);
        refuses("a call that throws", () -> x.execute(0, 0, -1, 0), ARGUMENT);
        told(DIVISION);
        x.memory(0, 0);
        x.needs(0, 0);
        told(DIVISION);
        for (int code : new int[] {NOTHING, WRITE_CONTROL, WRITE_STATUS, WRITE_ENVIRONMENT, READ_CONTROL, READ_ENVIRONMENT,
            REQUESTS, NO_REQUESTS, CLEAR, INITIAL, SAVE, RESTORE, TOP_LESS, FREE}) {
            given(N64, "1", "0");
            run(BY);
            told(DIVISION);
            run(code);
            told(0);
        }
        given(N64 & ~INVALID);
        run(TURN_SIGN);
        told(INVALID);
        sentence("IllegalArgumentException when what is none of these.");
        used();
        for (int wrong : FAR) {
            refuses("word(" + wrong + ")", () -> x.word(wrong), ARGUMENT);
        }
        for (int wrong : new int[] {8, 9, 16, 256, Integer.MAX_VALUE}) {
            refuses("word(" + wrong + ")", () -> x.word(wrong), ARGUMENT);
        }
        for (int what = 0; what < 8; what++) {
            int one = what;
            due("word(" + what + ")", thrown(() -> x.word(one)), 0);
        }
    }

    private static void words() {
        sentence("what = 0 the control, 1 the status, 2 the tags, 3 whether there is a REQUEST (1 or 0), 4 the code that is kept, 5"
            + " its place, 6 the operand's");
        given(N64 & ~DIVISION, "0", "1");
        due("done", x.execute(6, 0xf9, 0x0fedc, 0xba987), PartnerStack.DONE);
        int[] want = {N64 & ~DIVISION, 6 << 11 | 128 | DIVISION, 0x1fff, 1, 0x6f9, 0x0fedc, 0xba987, DIVISION};
        for (int what = 0; what < 8; what++) {
            due("word " + what, x.word(what), want[what]);
        }
        run(NO_REQUESTS);
        due("no REQUEST", x.word(3), 0);
        sentence("A call that throws changes nothing");
        used();
        refuses("memory", () -> x.memory(91, -1), INDEX);
        refuses("byteAt", () -> x.byteAt(94), INDEX);
        refuses("execute", () -> x.execute(3, 0xe3, 0, 1 << 20), ARGUMENT);
        refuses("needs", () -> x.needs(8, 0), ARGUMENT);
        refuses("word", () -> x.word(8), ARGUMENT);
        refuses("part", () -> x.part(0, 3), ARGUMENT);
        refuses("part", () -> x.part(8, 0), INDEX);
    }

    private static void part() {
        sentence("Of ST(k), EMPTY or not: what = 0 top (sign and power), 1 the fraction's upper half, 2 its lower half.");
        givenFull(N64 & ~63, "-7fff:fedcba9876543210");
        for (int i = 0; i < 2; i++) {
            due("top", x.part(0, 0), 0xffff);
            due("upper half", x.part(0, 1), 0xfedcba98);
            due("lower half", x.part(0, 2), 0x76543210);
            due("ST(7)", x.part(7, 0), 0x4002);
            run(FREE, FREE + 7);
        }
        sentence("IndexOutOfBoundsException when k is not 0 .. 7; IllegalArgumentException when what is none of these.");
        used();
        for (int wrong : FAR) {
            refuses("part(" + wrong + ", 0)", () -> x.part(wrong, 0), INDEX);
            refuses("part(0, " + wrong + ")", () -> x.part(0, wrong), ARGUMENT);
        }
        for (int wrong : new int[] {8, 9, 15, 16, Integer.MAX_VALUE}) {
            refuses("part(" + wrong + ", 2)", () -> x.part(wrong, 2), INDEX);
            refuses("part(7, " + wrong + ")", () -> x.part(7, wrong), ARGUMENT);
        }
        refuses("part(7, 3)", () -> x.part(7, 3), ARGUMENT);
        sentence("where several exceptions that a call names fit, the one named first is thrown");
        for (int k : new int[] {-1, 8, Integer.MIN_VALUE, Integer.MAX_VALUE}) {
            for (int what : new int[] {-1, 3, Integer.MIN_VALUE, Integer.MAX_VALUE}) {
                refuses("part(" + k + ", " + what + ")", () -> x.part(k, what), INDEX);
            }
        }
    }

    private static void manyCalls() {
        sentence("An object is used for at most 512 calls after it has been made");
        x = new PartnerStack();
        x.execute(1, 0xe8, 0, 0);
        for (int i = 0; i < 255; i++) {
            x.execute(1, 0xe8, i, 0);
            x.execute(6, 0xc1, 0, i);
        }
        due("the 512th call", x.part(0, 0), 0x3fff + 8);
    }

    public static void main(String[] args) {
        newObject();
        memory();
        byteAt();
        execute();
        needs();
        word();
        words();
        part();
        manyCalls();
        finish("calls");
    }
}
