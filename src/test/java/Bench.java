import java.util.ArrayList;
import java.util.List;

/**
 * What the tests of the boundaries share: an object at hand, reals written as texts, and the answers
 * that are due, each counted under the sentence of the document that asks for it.
 *
 * A real is written as a number ("6", "-2.5", "0", "-0", "inf"), as a power of two ("2^-16445"), or as its
 * power and its fraction in hex, the fraction filled up with zeros from the right, with something added
 * or taken off at its lowest end: "3fff:c" is 1.5, "0000:0+1" the least DENORMAL one, "7ffe:0-1" the
 * greatest NORMAL one.
 */
class Bench {
    static final int INVALID = 1;
    static final int DENORMAL = 2;
    static final int DIVISION = 4;
    static final int OVER = 8;
    static final int UNDER = 16;
    static final int LOSS = 32;

    // Controls with all masks set.
    static final int N24 = 0x007f;
    static final int N53 = 0x027f;
    static final int N64 = 0x037f;
    static final int DOWN = 0x0400;
    static final int UP = 0x0800;
    static final int CHOP = 0x0c00;
    static final int VIEW = 0x1000;
    static final int[] ROUNDINGS = {0, DOWN, UP, CHOP};

    static final int C0 = 0x0100;
    static final int C1 = 0x0200;
    static final int C2 = 0x0400;
    static final int C3 = 0x4000;
    static final int CONDITIONS = C0 | C1 | C2 | C3;

    static final String INDEFINITE = "-7fff:c";
    static final String GREATEST = "7ffe:0-1";
    static final String LEAST = "0000:0+1";

    // Codes: op times 256 and the byte.
    static final int PUSH_SHORT = 0x100;
    static final int PUSH_32 = 0x300;
    static final int PUSH_PATTERN = 0x328;
    static final int PUSH_LONG = 0x500;
    static final int PUSH_16 = 0x700;
    static final int PUSH_DECIMALS = 0x720;
    static final int PUSH_64 = 0x728;
    static final int WRITE_SHORT = 0x110;
    static final int WRITE_SHORT_POP = 0x118;
    static final int WRITE_32 = 0x310;
    static final int WRITE_32_POP = 0x318;
    static final int WRITE_PATTERN_POP = 0x338;
    static final int WRITE_LONG = 0x510;
    static final int WRITE_LONG_POP = 0x518;
    static final int WRITE_16 = 0x710;
    static final int WRITE_16_POP = 0x718;
    static final int WRITE_DECIMALS_POP = 0x730;
    static final int WRITE_64_POP = 0x738;
    static final int READ_ENVIRONMENT = 0x120;
    static final int READ_CONTROL = 0x128;
    static final int WRITE_ENVIRONMENT = 0x130;
    static final int WRITE_CONTROL = 0x138;
    static final int RESTORE = 0x520;
    static final int SAVE = 0x530;
    static final int WRITE_STATUS = 0x538;
    // With ST(1), into ST(0).
    static final int ADD = 0x0c1;
    static final int TIMES = 0x0c9;
    static final int COMPARE = 0x0d1;
    static final int COMPARE_POP = 0x0d9;
    static final int LESS = 0x0e1;
    static final int LESS_TURNED = 0x0e9;
    static final int BY = 0x0f1;
    static final int BY_TURNED = 0x0f9;
    static final int COMPARE_POP_TWICE = 0x6d9;
    static final int PUSH_REGISTER = 0x1c0;
    static final int CHANGE_PLACES = 0x1c8;
    static final int NOTHING = 0x1d0;
    static final int TURN_SIGN = 0x1e0;
    static final int NO_SIGN = 0x1e1;
    static final int TEST = 0x1e4;
    static final int EXAMINE = 0x1e5;
    static final int PUSH_ONE = 0x1e8;
    static final int PUSH_PI = 0x1eb;
    static final int PUSH_ZERO = 0x1ee;
    static final int EXTRACT = 0x1f4;
    static final int TOP_LESS = 0x1f6;
    static final int TOP_MORE = 0x1f7;
    static final int REMAINDER = 0x1f8;
    static final int ROOT = 0x1fa;
    static final int WHOLE = 0x1fc;
    static final int SCALE = 0x1fd;
    static final int REQUESTS = 0x3e0;
    static final int NO_REQUESTS = 0x3e1;
    static final int CLEAR = 0x3e2;
    static final int INITIAL = 0x3e3;
    static final int FREE = 0x5c0;
    static final int MOVE = 0x5d0;
    static final int MOVE_POP = 0x5d8;

    static final int CODE_PLACE = 0x12345;
    static final int OPERAND_PLACE = 0x6789a;

    /** No number that could be written. */
    static final long NOT_WRITTEN = 0x1badc0de1badc0deL;

    static PartnerStack x = new PartnerStack();

    private static final List<String> UNTESTED = new ArrayList<>();
    private static String sentence = "";
    private static int sentences = 0;
    private static int answers = 0;
    private static int answersBefore = 0;
    private static int wrong = 0;

    /** What comes behind is due because the document says this. */
    static void sentence(String words) {
        closeSentence();
        sentence = words;
        sentences++;
    }

    private static void closeSentence() {
        if (sentences > 0 && answers == answersBefore) {
            UNTESTED.add(sentence);
        }
        answersBefore = answers;
    }

    static void due(String what, long got, long want) {
        answers++;
        if (got != want) {
            wrong++;
            System.out.println("\"" + sentence + "\": " + what + " is " + Long.toHexString(got) + ", due is "
                + Long.toHexString(want));
        }
    }

    static void finish(String name) {
        closeSentence();
        for (String one : UNTESTED) {
            System.out.println("no answer is asked for: \"" + one + "\"");
        }
        System.out.println(name + ": " + sentences + " sentences, " + answers + " answers, " + wrong + " wrong");
        System.exit(wrong == 0 && UNTESTED.isEmpty() ? 0 : 1);
    }

    // ---- reals

    /** Sign and power, then the fraction. */
    static long[] real(String text) {
        int sign = text.startsWith("-") ? 0x8000 : 0;
        String body = sign != 0 ? text.substring(1) : text;
        if (body.equals("inf")) {
            return new long[] {sign | 0x7fff, Long.MIN_VALUE};
        }
        if (body.indexOf(':') > 0) {
            return new long[] {sign | Integer.parseInt(body.substring(0, 4), 16), fractionOf(body.substring(5))};
        }
        if (body.startsWith("2^")) {
            int k = Integer.parseInt(body.substring(2));
            return k < -16382 ? new long[] {sign, 1L << (k + 16445)} : new long[] {sign | k + 16383, Long.MIN_VALUE};
        }
        if (body.indexOf('.') < 0) {
            return numberOf(sign, Long.parseLong(body), 0);
        }
        long bits = Double.doubleToLongBits(Double.parseDouble(body));
        return numberOf(sign, bits & (1L << 52) - 1 | 1L << 52, (int) (bits >>> 52) - 1075);
    }

    private static long[] numberOf(int sign, long whole, int exponent) {
        if (whole == 0) {
            return new long[] {sign, 0};
        }
        int zeros = Long.numberOfLeadingZeros(whole);
        return new long[] {sign | 16446 + exponent - zeros, whole << zeros};
    }

    private static long fractionOf(String text) {
        int end = Math.max(text.indexOf('+'), text.indexOf('-'));
        String hex = (end < 0 ? text : text.substring(0, end)) + "0000000000000000";
        long more = end < 0 ? 0 : Long.parseLong(text.substring(end));
        return Long.parseUnsignedLong(hex.substring(0, 16), 16) + more;
    }

    // ---- the object at hand

    static void put(int from, int count, long value) {
        for (int i = 0; i < count; i++) {
            int at = Math.min(from + i, 90);
            int shift = 8 * (from + i - at);
            int four = (int) memoryBits(at, 4);
            x.memory(at, four & ~(255 << shift) | (int) (value >>> 8 * i & 255) << shift);
        }
    }

    static long memoryBits(int from, int count) {
        long all = 0;
        for (int i = count - 1; i >= 0; i--) {
            all = all << 8 | x.byteAt(from + i);
        }
        return all;
    }

    static void fill(int value) {
        for (int i = 0; i < 94; i++) {
            put(i, 1, value);
        }
    }

    static int tryCode(int code) {
        return x.execute(code >> 8, code & 255, CODE_PLACE, OPERAND_PLACE);
    }

    static void run(int... codes) {
        for (int code : codes) {
            due("execute " + Integer.toHexString(code), tryCode(code), PartnerStack.DONE);
        }
    }

    static void control(int control) {
        put(0, 2, control);
        run(READ_CONTROL);
    }

    static void push(String text) {
        putReal(0, text);
        run(PUSH_PATTERN);
    }

    static void putReal(int from, String text) {
        long[] real = real(text);
        put(from, 8, real[1]);
        put(from + 8, 2, real[0]);
    }

    /** A new object under a control, with these reals on its stack, the first as ST(0). */
    static void given(int control, String... reals) {
        x = new PartnerStack();
        control(control);
        for (int i = reals.length - 1; i >= 0; i--) {
            push(reals[i]);
        }
    }

    /** The same with eight of them. */
    static void givenFull(int control, String first) {
        given(control, first, "2", "3", "4", "5", "6", "7", "8");
    }

    /** Other numbers go through the object: a PARTIAL remainder with a quotient of all ones, and a root that is cut. */
    static void disturb() {
        run(PUSH_ONE);
        push("403f:0-1");
        run(REMAINDER, PUSH_PI, ROOT, MOVE_POP, MOVE_POP, MOVE_POP, CLEAR);
    }

    static int top() {
        return x.word(1) >> 11 & 7;
    }

    static int conditions() {
        return x.word(1) & CONDITIONS;
    }

    static boolean isEmpty(int k) {
        return (x.word(2) >> 2 * (top() + k & 7) & 3) == 3;
    }

    static void holds(int k, String want) {
        long[] real = real(want);
        due("ST(" + k + ") as " + want + ": top", x.part(k, 0), real[0]);
        due("ST(" + k + ") as " + want + ": fraction", (long) x.part(k, 1) << 32 | x.part(k, 2) & 0xffffffffL, real[1]);
        due("ST(" + k + ") EMPTY", isEmpty(k) ? 1 : 0, 0);
    }

    static void told(int want) {
        due("told", x.word(7), want);
    }

    /** All that can be seen: words, registers, memory. */
    static int[] seen() {
        int[] all = new int[8 + 24 + 94];
        for (int i = 0; i < 8; i++) {
            all[i] = x.word(i);
        }
        for (int i = 0; i < 24; i++) {
            all[8 + i] = x.part(i / 3, i % 3);
        }
        for (int i = 0; i < 94; i++) {
            all[32 + i] = x.byteAt(i);
        }
        return all;
    }

    static void unchanged(String what, int[] before) {
        int[] now = seen();
        for (int i = 0; i < now.length; i++) {
            due(what + ": what is seen at " + i, now[i], before[i]);
        }
    }

    // ---- what a code does

    /** A code on ST(0), and on ST(1) if that is not null, gives ST(0) and tells. */
    static void gives(int control, int code, String a, String b, String want, int told) {
        if (b == null) {
            given(control, a);
        } else {
            given(control, a, b);
        }
        disturb();
        run(code);
        holds(0, want);
        told(told);
        due("status", x.word(1) & 63, told);
    }

    /** The code ENDS: only what is told, and the pointers, are kept. */
    static void ends(int code, int told) {
        int[] before = seen();
        int status = before[1] & 63 | told;
        int unmasked = (status & ~before[0]) != 0 ? 128 : 0;
        run(code);
        before[1] = before[1] & ~255 | status | unmasked;
        before[3] = unmasked != 0 && (before[0] & 128) == 0 ? 1 : 0;
        before[4] = code;
        before[5] = CODE_PLACE;
        before[6] = OPERAND_PLACE;
        before[7] = told;
        unchanged("code " + Integer.toHexString(code) + " that ends", before);
    }

    static void endsWith(int control, int code, String a, String b, int told) {
        if (b == null) {
            given(control, a);
        } else {
            given(control, a, b);
        }
        disturb();
        ends(code, told);
    }

    /** ST(0) is compared with ST(1); C1 is set before and must stay. */
    static void orders(int control, String a, String b, int want, int told) {
        given(control, a, b);
        disturb();
        setConditions(C1);
        run(COMPARE);
        int unmasked = (told & ~control) != 0 ? 128 : 0;
        due(a + " and " + b, x.word(1), C1 | want | told | unmasked | 6 << 11);
        told(told);
    }

    /** Just these of them, by way of the environment. */
    static void setConditions(int conditions) {
        run(WRITE_ENVIRONMENT);
        put(2, 2, memoryBits(2, 2) & ~CONDITIONS | conditions);
        run(READ_ENVIRONMENT);
    }

    /** What is pushed of these bytes, the others being no matter. */
    static void reads(int control, int code, int count, long low, String want, int told) {
        for (int rest = 0; rest < 256; rest += 255) {
            given(control);
            disturb();
            fill(rest);
            put(0, count, low);
            run(code);
            holds(0, want);
            told(told);
            due("TOP", top(), 7);
        }
    }

    /** What is written of ST(0), lowest byte first; the other bytes of memory stay. */
    static void writes(int control, int code, String real, long want, int told) {
        writes(control, code, real, want, 0, told);
    }

    /** The same of ten bytes, the two highest of them apart. */
    static void writes(int control, int code, String real, long want, int high, int told) {
        given(control, real);
        disturb();
        fill(0x5a);
        int count = want == NOT_WRITTEN ? 0 : -x.needs(code >> 8, code & 255);
        run(code);
        for (int i = 0; i < 94; i++) {
            long written = i < 8 ? want >>> 8 * i & 255 : high >>> 8 * (i - 8) & 255;
            due(real + ": byte " + i, x.byteAt(i), i < count ? written : 0x5a);
        }
        told(told);
        boolean isPopped = (code & 8) != 0 || code == WRITE_DECIMALS_POP;
        due(real + ": EMPTY", x.word(2) == 0xffff ? 1 : 0, isPopped && count > 0 ? 1 : 0);
    }

    // ---- what is thrown

    interface Call {
        void now();
    }

    /** 0 nothing, 1 IndexOutOfBoundsException, 2 IllegalArgumentException, 3 another one. */
    static int thrown(Call call) {
        try {
            call.now();
        } catch (RuntimeException e) {
            return e.getClass() == IndexOutOfBoundsException.class ? 1 : e.getClass() == IllegalArgumentException.class ? 2 : 3;
        }
        return 0;
    }

    /** The call throws the kind and changes nothing. */
    static void refuses(String what, Call call, int kind) {
        int[] before = seen();
        due(what + " throws", thrown(call), kind);
        unchanged(what, before);
    }
}
