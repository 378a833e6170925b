/**
 * A partner for numbers: eight registers of eighty bits as a stack, with tags, a control and a
 * status word, and all codes of two bytes that work with it on operands in a row of bytes.
 */
public final class PartnerStack {
    public static final int DONE = 0;
    public static final int NO_CODE = 1;
    public static final int REFUSED = 2;

    private static final int REGISTERS = 8;
    private static final int PLACES = 1 << 20;
    private static final int FIRST_REGISTER_CODE = 192;
    private static final int INITIAL_CONTROL = 0x03ff;
    private static final int NO_REQUEST = 0x80;
    private static final int UNMASKED = 0x80;
    private static final int C0 = 0x0100;
    private static final int C1 = 0x0200;
    private static final int C2 = 0x0400;
    private static final int C3 = 0x4000;
    private static final int ENVIRONMENT_SIZE = 14;
    private static final int PATTERN_SIZE = 10;

    /** Bytes that a code reads from memory, or (below 0) writes there, by op times 8 and r; 0: no code. */
    private static final int[] BYTES_MOVED = {
        4, 4, 4, 4, 4, 4, 4, 4,
        4, 0, -4, -4, 14, 2, -14, -2,
        4, 4, 4, 4, 4, 4, 4, 4,
        4, 0, -4, -4, 0, 10, 0, -10,
        8, 8, 8, 8, 8, 8, 8, 8,
        8, 0, -8, -8, 94, 0, -94, -2,
        2, 2, 2, 2, 2, 2, 2, 2,
        2, 0, -2, -2, 10, 8, -10, -8
    };

    /** Which i are codes with registers (bit i), by op times 8 and r. */
    private static final int[] REGISTER_CODES = {
        0xff, 0xff, 0xff, 0xff, 0xff, 0xff, 0xff, 0xff,
        0xff, 0xff, 0x01, 0x00, 0x33, 0x7f, 0xd0, 0x35,
        0x00, 0x00, 0x00, 0x00, 0x00, 0x00, 0x00, 0x00,
        0x00, 0x00, 0x00, 0x00, 0x0f, 0x00, 0x00, 0x00,
        0xff, 0xff, 0x00, 0x00, 0xff, 0xff, 0xff, 0xff,
        0xff, 0x00, 0xff, 0xff, 0x00, 0x00, 0x00, 0x00,
        0xff, 0xff, 0x00, 0x02, 0xff, 0xff, 0xff, 0xff,
        0x00, 0x00, 0x00, 0x00, 0x00, 0x00, 0x00, 0x00
    };

    /** The format of a code's operand in memory, by op times 8 and r; -1: it is none of a number. */
    private static final int[] OPERAND_FORMATS = {
        3, 3, 3, 3, 3, 3, 3, 3,
        3, -1, 3, 3, -1, -1, -1, -1,
        1, 1, 1, 1, 1, 1, 1, 1,
        1, -1, 1, 1, -1, 6, -1, 6,
        4, 4, 4, 4, 4, 4, 4, 4,
        4, -1, 4, 4, -1, -1, -1, -1,
        0, 0, 0, 0, 0, 0, 0, 0,
        0, -1, 0, 0, 5, 2, 5, 2
    };

    /** One, the logarithms of 10 and e by 2, pi, the logarithms of 2 by 10 and e, ZERO. */
    private static final int[] CONSTANT_POWERS = {16383, 16384, 16383, 16384, 16381, 16382, 0};
    private static final long[] CONSTANT_FRACTIONS = {
        0x8000000000000000L, 0xd49a784bcd1b8afeL, 0xb8aa3b295c17f0bcL, 0xc90fdaa22168c235L,
        0x9a209a84fbcff799L, 0xb17217f7d1cf79acL, 0L
    };

    /** What EXAMINED answers, by kind. */
    private static final int[] EXAMINED = {8, 12, 0, 4, 5, 1};
    private static final int EXAMINED_EMPTY = 9;

    private final Memory row = new Memory();
    private final Control control = new Control();
    private final Operation operation = new Operation(control);
    private final Steps steps = new Steps(control);
    private final Reader reader = new Reader(control, row);
    private final Writer writer = new Writer(control, row);
    private final Real[] registers = new Real[REGISTERS];
    private final boolean[] empty = new boolean[REGISTERS];
    private final Real left = new Real();
    private final Real right = new Real();
    private final Real answer = new Real();
    private final Real second = new Real();
    private int top;
    private int toldBefore;
    private int conditions;
    private int keptCode;
    private int keptCodePlace;
    private int keptOperandPlace;

    public PartnerStack() {
        for (int i = 0; i < REGISTERS; i++) {
            registers[i] = new Real();
        }
        beInitial();
    }

    public void memory(int i, int four) throws IndexOutOfBoundsException {
        if (i < 0 || i > Memory.SIZE - 4) {
            throw new IndexOutOfBoundsException("no four bytes from there on");
        }
        row.put(i, 4, four);
    }

    public int byteAt(int i) throws IndexOutOfBoundsException {
        if (i < 0 || i >= Memory.SIZE) {
            throw new IndexOutOfBoundsException("no such byte");
        }
        return (int) row.bits(i, 1);
    }

    public int execute(int op, int code, int codePlace, int operandPlace) throws IllegalArgumentException {
        if (!isPattern(op, code) || !isPlace(codePlace) || !isPlace(operandPlace)) {
            throw new IllegalArgumentException("no op, code or place");
        }
        int sort = sortOf(op, code);
        if (sort != DONE) {
            return sort;
        }
        control.told = 0;
        int r = (code >> 3) & 7;
        if (code < FIRST_REGISTER_CODE) {
            doWithMemory(op, r);
        } else if (op == 1) {
            doOwn(r, code & 7);
        } else {
            doWithRegisters(op, r, code & 7);
        }
        toldBefore |= control.told;
        if (keepsPointers(op, code)) {
            keptCode = op * 256 + code;
            keptCodePlace = codePlace;
            keptOperandPlace = operandPlace;
        }
        return DONE;
    }

    public int needs(int op, int code) throws IllegalArgumentException {
        if (!isPattern(op, code)) {
            throw new IllegalArgumentException("no op or code");
        }
        return code < FIRST_REGISTER_CODE ? BYTES_MOVED[op * 8 + ((code >> 3) & 7)] : 0;
    }

    public int word(int what) throws IllegalArgumentException {
        switch (what) {
            case 0:
                return control.setting;
            case 1:
                return status();
            case 2:
                return tags();
            case 3:
                return (status() & UNMASKED) != 0 && (control.setting & NO_REQUEST) == 0 ? 1 : 0;
            case 4:
                return keptCode;
            case 5:
                return keptCodePlace;
            case 6:
                return keptOperandPlace;
            case 7:
                return control.told;
            default:
                throw new IllegalArgumentException("no such word");
        }
    }

    public int part(int k, int what) throws IndexOutOfBoundsException, IllegalArgumentException {
        if (k < 0 || k >= REGISTERS) {
            throw new IndexOutOfBoundsException("no such register");
        }
        if (what < 0 || what > 2) {
            throw new IllegalArgumentException("no such part");
        }
        Real real = registers[place(k)];
        if (what == 0) {
            return real.top();
        }
        return what == 1 ? (int) (real.fraction >>> 32) : (int) real.fraction;
    }

    private static boolean isPattern(int op, int code) {
        return op >= 0 && op <= 7 && code >= 0 && code <= 255;
    }

    private static boolean isPlace(int place) {
        return place >= 0 && place < PLACES;
    }

    private static int sortOf(int op, int code) {
        int r = (code >> 3) & 7;
        int i = code & 7;
        if (code < FIRST_REGISTER_CODE) {
            return BYTES_MOVED[op * 8 + r] == 0 ? NO_CODE : DONE;
        }
        if (op == 1 && (r == 6 && i < 4 || r == 7 && i == 1)) {
            return REFUSED;
        }
        return (REGISTER_CODES[op * 8 + r] >> i & 1) == 0 ? NO_CODE : DONE;
    }

    private static boolean keepsPointers(int op, int code) {
        if (code >= FIRST_REGISTER_CODE) {
            return op != 3;
        }
        return op != 1 && op != 5 || ((code >> 3) & 7) < 4;
    }

    private int place(int k) {
        return (top + k) & 7;
    }

    private int status() {
        int unmasked = (toldBefore & ~control.setting) != 0 ? UNMASKED : 0;
        return toldBefore | unmasked | conditions | top << 11;
    }

    private int tags() {
        int all = 0;
        for (int i = REGISTERS - 1; i >= 0; i--) {
            all = all << 2 | (empty[i] ? 3 : registers[i].tag());
        }
        return all;
    }

    private void beInitial() {
        control.setting = INITIAL_CONTROL;
        toldBefore = 0;
        conditions = 0;
        top = 0;
        for (int i = 0; i < REGISTERS; i++) {
            empty[i] = true;
        }
        keptCode = 0;
        keptCodePlace = 0;
        keptOperandPlace = 0;
    }

    private void doWithMemory(int op, int r) {
        int format = OPERAND_FORMATS[op * 8 + r];
        if (format < 0) {
            doWithWords(op, r);
        } else if ((op & 1) == 0) {
            need(0, left);
            if (!control.ends()) {
                reader.read(format, right);
            }
            combine(r, 0, r == 3 ? 1 : 0);
        } else if (BYTES_MOVED[op * 8 + r] > 0) {
            pushRead(format);
        } else {
            store(format, r != 2);
        }
    }

    /** The codes of op 1 and 5 that move the control, the status, the environment or the whole state. */
    private void doWithWords(int op, int r) {
        boolean isShort = op == 1;
        switch (r) {
            case 4:
                readEnvironment();
                if (!isShort) {
                    readRegisters();
                }
                break;
            case 5:
                control.setting = (int) row.bits(0, 2);
                break;
            case 6:
                writeEnvironment();
                if (!isShort) {
                    writeRegisters();
                    beInitial();
                }
                break;
            default:
                row.put(0, 2, isShort ? control.setting : status());
                break;
        }
    }

    private void doWithRegisters(int op, int r, int i) {
        switch (op) {
            case 0:
                need(0, left);
                need(i, right);
                combine(r, 0, r == 3 ? 1 : 0);
                break;
            case 3:
                doWithControl(i);
                break;
            case 4:
                need(0, left);
                need(i, right);
                combine(r, i, 0);
                break;
            case 5:
                move(r, i);
                break;
            case 6:
                need(0, left);
                need(i, right);
                combine(r, i, r == 3 ? 2 : 1);
                break;
            default:
                break;
        }
    }

    private void doOwn(int r, int i) {
        switch (r) {
            case 0:
                need(i, left);
                push(left);
                break;
            case 1:
                exchange(i);
                break;
            case 4:
                doWithFirst(i);
                break;
            case 5:
                answer.set(false, CONSTANT_POWERS[i], CONSTANT_FRACTIONS[i]);
                push(answer);
                break;
            case 6:
                if (i == 4) {
                    extract();
                } else {
                    top = place(i == 6 ? 7 : 1);
                }
                break;
            case 7:
                doStep(i);
                break;
            default:
                break;
        }
    }

    private void doWithFirst(int i) {
        if (i == 5) {
            examine();
            return;
        }
        need(0, left);
        if (i == 4) {
            right.setZero(false);
            compare(0);
        } else if (!control.ends()) {
            left.minus = i == 0 && !left.minus;
            keep(0, left);
        }
    }

    private void doStep(int i) {
        need(0, left);
        if (i == 0 || i == 5) {
            need(1, right);
        }
        if (control.ends()) {
            return;
        }
        if (i == 0) {
            steps.takeRemainder(left, right, answer);
        } else if (i == 2) {
            operation.operate(Operation.ROOT, left, left, answer);
        } else if (i == 4) {
            steps.makeWhole(left, answer);
        } else {
            steps.scale(left, right, answer);
        }
        if (control.ends()) {
            return;
        }
        keep(0, answer);
        if (i == 0 && steps.hasQuotient) {
            showQuotient();
        }
    }

    private void doWithControl(int i) {
        switch (i) {
            case 0:
                control.setting &= ~NO_REQUEST;
                break;
            case 1:
                control.setting |= NO_REQUEST;
                break;
            case 2:
                toldBefore = 0;
                break;
            default:
                beInitial();
                break;
        }
    }

    private void move(int r, int i) {
        if (r == 0) {
            empty[place(i)] = true;
            return;
        }
        need(0, left);
        if (control.ends()) {
            return;
        }
        keep(i, left);
        if (r == 3) {
            pop();
        }
    }

    /** ST(k), or, when it is EMPTY, what it counts as. */
    private void need(int k, Real into) {
        int at = place(k);
        if (empty[at]) {
            control.tell(Control.INVALID);
            into.setIndefinite();
        } else {
            into.take(registers[at]);
        }
    }

    private void keep(int k, Real real) {
        int at = place(k);
        registers[at].take(real);
        empty[at] = false;
    }

    private void pop() {
        empty[top] = true;
        top = place(1);
    }

    private void push(Real real) {
        if (!empty[place(7)]) {
            control.tell(Control.INVALID);
            real.setIndefinite();
        }
        if (control.ends()) {
            return;
        }
        top = place(7);
        keep(0, real);
    }

    /** A full stack is seen before the operand: then it is not read, and tells nothing. */
    private void pushRead(int format) {
        if (empty[place(7)]) {
            reader.read(format, answer);
        }
        push(answer);
    }

    private void store(int format, boolean popped) {
        need(0, left);
        if (control.ends()) {
            return;
        }
        writer.write(format, left);
        if (popped && !control.endsWriting()) {
            pop();
        }
    }

    /** Does what r says with left, which is ST(0), and right; an answer goes to ST(target). */
    private void combine(int r, int target, int pops) {
        if (control.ends()) {
            return;
        }
        if (r == 2 || r == 3) {
            compare(pops);
            return;
        }
        boolean turned = r == 5 || r == 7;
        int kind = Operation.QUOTIENT;
        if (r < 6) {
            kind = r == 0 ? Operation.SUM : r == 1 ? Operation.PRODUCT : Operation.DIFFERENCE;
        }
        operation.operate(kind, turned ? right : left, turned ? left : right, answer);
        if (control.ends()) {
            return;
        }
        keep(target, answer);
        if (pops > 0) {
            pop();
        }
    }

    private void compare(int pops) {
        if (control.ends()) {
            return;
        }
        int order = steps.compare(left, right, answer);
        if (control.ends()) {
            return;
        }
        conditions &= C1;
        if (order == Steps.NO_ORDER) {
            conditions |= C0 | C2 | C3;
        } else if (order <= 0) {
            conditions |= order < 0 ? C0 : C3;
        }
        for (int i = 0; i < pops; i++) {
            pop();
        }
    }

    private void exchange(int i) {
        need(0, left);
        need(i, right);
        if (control.ends()) {
            return;
        }
        keep(0, right);
        keep(i, left);
    }

    /** The power and the fraction are found only when it is known that the code does not END by the stack. */
    private void extract() {
        need(0, left);
        boolean full = !empty[place(7)];
        if (full) {
            control.tell(Control.INVALID);
        }
        if (control.ends()) {
            return;
        }
        steps.extract(left, answer, second);
        if (control.ends()) {
            return;
        }
        if (full) {
            second.setIndefinite();
        }
        keep(0, answer);
        top = place(7);
        keep(0, second);
    }

    private void examine() {
        Real first = registers[top];
        int seen = EXAMINED_EMPTY;
        if (!empty[top]) {
            seen = EXAMINED[first.kind()] + (first.minus ? 2 : 0);
        }
        conditions = (seen & 7) << 8 | (seen & 8) << 11;
    }

    private void showQuotient() {
        int quotient = steps.quotient;
        conditions = steps.isPartial ? C2 : 0;
        conditions |= (quotient & 4) != 0 ? C0 : 0;
        conditions |= (quotient & 2) != 0 ? C3 : 0;
        conditions |= (quotient & 1) != 0 ? C1 : 0;
    }

    private void writeEnvironment() {
        row.put(0, 2, control.setting);
        row.put(2, 2, status());
        row.put(4, 2, tags());
        row.put(6, 2, keptCodePlace);
        row.put(8, 2, (keptCodePlace >> 16) << 12 | keptCode);
        row.put(10, 2, keptOperandPlace);
        row.put(12, 2, (keptOperandPlace >> 16) << 12);
    }

    private void readEnvironment() {
        control.setting = (int) row.bits(0, 2);
        int seen = (int) row.bits(2, 2);
        toldBefore = seen & Control.ALL;
        conditions = seen & (C0 | C1 | C2 | C3);
        top = (seen >> 11) & 7;
        int seenTags = (int) row.bits(4, 2);
        for (int i = 0; i < REGISTERS; i++) {
            empty[i] = ((seenTags >> (2 * i)) & 3) == 3;
        }
        int upper = (int) row.bits(8, 2);
        keptCode = upper & 0x7ff;
        keptCodePlace = (upper >> 12) << 16 | (int) row.bits(6, 2);
        keptOperandPlace = (int) (row.bits(12, 2) >> 12) << 16 | (int) row.bits(10, 2);
    }

    private void writeRegisters() {
        for (int k = 0; k < REGISTERS; k++) {
            writer.writePattern(ENVIRONMENT_SIZE + k * PATTERN_SIZE, registers[place(k)]);
        }
    }

    private void readRegisters() {
        for (int k = 0; k < REGISTERS; k++) {
            reader.readPattern(ENVIRONMENT_SIZE + k * PATTERN_SIZE, registers[place(k)]);
        }
    }

    /** The control word, and what the code that is being done has told under its masks. */
    private static final class Control {
        static final int INVALID = 1;
        static final int DENORMAL = 2;
        static final int DIVISION = 4;
        static final int OVER = 8;
        static final int UNDER = 16;
        static final int LOSS = 32;
        static final int ALL = 63;

        static final int NEAREST = 0;
        static final int DOWN = 1;
        static final int UP = 2;
        static final int HALVES_TO_ZERO = 4;

        private static final int ENDING = INVALID | DENORMAL | DIVISION;
        private static final int ENDING_WRITING = ENDING | OVER | UNDER;

        int setting;
        int told;

        void tell(int what) {
            told |= what;
        }

        boolean masks(int what) {
            return (setting & what) != 0;
        }

        boolean ends() {
            return (told & ~setting & ENDING) != 0;
        }

        boolean endsWriting() {
            return (told & ~setting & ENDING_WRITING) != 0;
        }

        int digits() {
            int precision = (setting >> 8) & 3;
            if (precision == 0) {
                return 24;
            }
            return precision == 2 ? 53 : 64;
        }

        int rounding() {
            return (setting >> 10) & 3;
        }

        boolean overBecomesInfinite(boolean minus) {
            int rounding = rounding();
            return rounding == NEAREST || rounding == (minus ? DOWN : UP);
        }

        boolean knowsOneInfinite() {
            return (setting & 0x1000) == 0;
        }

        /**
         * What operations and steps look at first: no numbers, what can't be, denormal ones.
         * True when nothing is left to do: either the answer is there, or the code ENDS.
         */
        boolean settles(Real a, Real b, boolean cannotBe, Real answer) {
            if (answer.takeNoNumber(a, b)) {
                tell(INVALID);
                return true;
            }
            if (cannotBe) {
                tell(INVALID);
                answer.setIndefinite();
                return true;
            }
            if (a.kind() == Real.DENORMAL || b.kind() == Real.DENORMAL) {
                tell(DENORMAL);
            }
            return ends();
        }
    }

    /** A sign, a power of 15 bits and a fraction of 64. */
    private static final class Real {
        static final int ZERO = 0;
        static final int DENORMAL = 1;
        static final int UNNORMAL = 2;
        static final int NORMAL = 3;
        static final int INFINITE = 4;
        static final int NO_NUMBER = 5;

        static final int HIGHEST_POWER = 32767;
        static final int BIAS = 16383;
        static final long HIGHEST_BIT = 0x8000000000000000L;
        static final long INDEFINITE_FRACTION = 0xc000000000000000L;

        boolean minus;
        int power;
        long fraction;

        int kind() {
            if (power == HIGHEST_POWER) {
                return fraction << 1 == 0 ? INFINITE : NO_NUMBER;
            }
            if (power == 0) {
                return fraction == 0 ? ZERO : DENORMAL;
            }
            return fraction < 0 ? NORMAL : UNNORMAL;
        }

        boolean isInfinite() {
            return power == HIGHEST_POWER && fraction << 1 == 0;
        }

        boolean isNothing() {
            return power != HIGHEST_POWER && fraction == 0;
        }

        boolean isUnnormalSomething() {
            return fraction > 0 && power > 0 && power < HIGHEST_POWER;
        }

        int tag() {
            if (isNothing()) {
                return 1;
            }
            return kind() == NORMAL ? 0 : 2;
        }

        int top() {
            return (minus ? 0x8000 : 0) | power;
        }

        void set(boolean newMinus, int newPower, long newFraction) {
            minus = newMinus;
            power = newPower;
            fraction = newFraction;
        }

        void setZero(boolean newMinus) {
            set(newMinus, 0, 0L);
        }

        void setInfinite(boolean newMinus) {
            set(newMinus, HIGHEST_POWER, HIGHEST_BIT);
        }

        void setIndefinite() {
            set(true, HIGHEST_POWER, INDEFINITE_FRACTION);
        }

        void take(Real other) {
            minus = other.minus;
            power = other.power;
            fraction = other.fraction;
        }

        /** Takes the one of a and b that is no number and goes before the other; false if there is none. */
        boolean takeNoNumber(Real a, Real b) {
            boolean first = a.kind() == NO_NUMBER;
            boolean other = b.kind() == NO_NUMBER;
            if (!first && !other) {
                return false;
            }
            take(first && !(other && b.goesBefore(a)) ? a : b);
            return true;
        }

        private boolean goesBefore(Real other) {
            if (fraction == other.fraction) {
                return !minus && other.minus;
            }
            return (fraction ^ HIGHEST_BIT) > (other.fraction ^ HIGHEST_BIT);
        }
    }

    /**
     * An exact size: the 128 bits high and low, and a part of one beyond them if there is more, times
     * 2^unit. Between its methods it is normal: the highest bit is set, or all is 0.
     */
    private static final class Size {
        private static final long HALF_MASK = 0xffffffffL;
        private static final int QUOTIENT_PLACES = 66;
        private static final int ROOT_DIGITS = 66;
        /** Below the unit of every real, so that nothing never counts as the greater one. */
        private static final int LEAST_UNIT = -17000;

        long high;
        long low;
        boolean more;
        int unit;

        /** What the last rounding kept, and whether it cut something off. */
        long kept;
        boolean isCut;

        /** What the last division left, in units of its divisor. */
        long rest;

        boolean isNothing() {
            return high == 0 && low == 0;
        }

        /** The k with 2^k <= size < 2^(k + 1). */
        int exponent() {
            return unit + 127;
        }

        void load(Real real) {
            loadTimes(real.fraction, (real.power == 0 ? 1 : real.power) - 16446);
        }

        /** The whole number times 2^exponent. */
        void loadTimes(long whole, int exponent) {
            high = whole;
            low = 0;
            more = false;
            unit = exponent - 64;
            normalise();
        }

        private void normalise() {
            if (high == 0) {
                high = low;
                low = 0;
                unit -= 64;
            }
            if (high == 0) {
                unit = LEAST_UNIT;
                return;
            }
            for (int places = 32; places > 0; places >>= 1) {
                if (high >>> (64 - places) == 0) {
                    high = high << places | low >>> (64 - places);
                    low <<= places;
                    unit -= places;
                }
            }
        }

        private void shiftRight(int places) {
            int left = places;
            unit += places;
            if (left >= 128) {
                more = more || high != 0 || low != 0;
                high = 0;
                low = 0;
                return;
            }
            if (left >= 64) {
                more = more || low != 0;
                low = high;
                high = 0;
                left -= 64;
            }
            if (left > 0) {
                more = more || low << (64 - left) != 0;
                low = low >>> left | high << (64 - left);
                high >>>= left;
            }
        }

        /** -1, 0 or 1 as this size, of one real, is below, the same as or above that of another. */
        int against(Size other) {
            if (unit != other.unit) {
                return unit < other.unit ? -1 : 1;
            }
            if (high == other.high) {
                return 0;
            }
            return isBelow(high, other.high) ? -1 : 1;
        }

        void swap(Size other) {
            long otherHigh = other.high;
            int otherUnit = other.unit;
            other.high = high;
            other.unit = unit;
            high = otherHigh;
            unit = otherUnit;
        }

        /** Adds what is not greater. */
        void add(Size other) {
            shiftRight(1);
            other.shiftRight(unit - other.unit);
            low += other.low;
            high += other.high + (isBelow(low, other.low) ? 1 : 0);
            more = other.more;
            normalise();
        }

        /** Takes off what is not greater. */
        void subtract(Size other) {
            shiftRight(1);
            other.shiftRight(unit - other.unit);
            long borrow = isBelow(low, other.low) ? 1 : 0;
            low -= other.low;
            high -= other.high + borrow;
            more = other.more;
            if (more) {
                high -= low == 0 ? 1 : 0;
                low--;
            }
            normalise();
        }

        void multiply(Size other) {
            long a = high >>> 32;
            long b = high & HALF_MASK;
            long c = other.high >>> 32;
            long d = other.high & HALF_MASK;
            long lowest = b * d;
            long middle = a * d + (lowest >>> 32);
            long other32 = b * c + (middle & HALF_MASK);
            high = a * c + (middle >>> 32) + (other32 >>> 32);
            low = other32 << 32 | lowest & HALF_MASK;
            unit += other.unit + 128;
            normalise();
        }

        /** Leaves at least 66 digits of the quotient: a digit to round by, and more, beyond any precision. */
        void divide(Size other) {
            longDivide(other.high, QUOTIENT_PLACES);
            more = rest != 0;
            unit -= other.unit + QUOTIENT_PLACES;
            normalise();
        }

        /**
         * Takes off the other one, times 2^raised, as often as it goes; answers the lower bits of how
         * often that was. Before the high parts are divided this one stands places (0 .. 63) higher.
         */
        int reduce(Size other, int places, int raised) {
            longDivide(other.high, places);
            int quotient = (int) low & 7;
            loadTimes(rest, other.unit + 64 + raised);
            return quotient;
        }

        /** The whole part of high times 2^places by the divisor, whose highest bit is set, and the rest. */
        private void longDivide(long divisor, int places) {
            rest = high;
            high = 0;
            low = 0;
            if (!isBelow(rest, divisor)) {
                rest -= divisor;
                low = 1;
            }
            for (int i = 0; i < places; i++) {
                boolean isOut = rest < 0;
                rest <<= 1;
                high = high << 1 | low >>> 63;
                low <<= 1;
                if (isOut || !isBelow(rest, divisor)) {
                    rest -= divisor;
                    low |= 1;
                }
            }
        }

        /** Digit by digit: each takes two bits of the number, the first only one if the unit is odd. */
        void root() {
            long bits = high;
            boolean odd = (unit & 1) != 0;
            long restHigh = 0;
            long restLow = 0;
            high = 0;
            low = 0;
            for (int i = 0; i < ROOT_DIGITS; i++) {
                int width = odd && i == 0 ? 1 : 2;
                restHigh = restHigh << 2 | restLow >>> 62;
                restLow = restLow << 2 | bits >>> (64 - width);
                bits <<= width;
                long tryHigh = high << 2 | low >>> 62;
                long tryLow = low << 2 | 1;
                high = high << 1 | low >>> 63;
                low <<= 1;
                if (restHigh > tryHigh || restHigh == tryHigh && !isBelow(restLow, tryLow)) {
                    restHigh -= tryHigh + (isBelow(restLow, tryLow) ? 1 : 0);
                    restLow -= tryLow;
                    low |= 1;
                }
            }
            more = restHigh != 0 || restLow != 0;
            unit = (unit + 64 - (odd ? 67 : 68)) >> 1;
            normalise();
        }

        /** Keeps what is above the lowest places (64 or more), rounded; the size itself stays. */
        void round(int places, int rounding, boolean minus) {
            long cut = low;
            boolean isBeyond = more;
            kept = high;
            if (places > 64) {
                isBeyond = isBeyond || low != 0;
                kept = places < 128 ? high >>> (places - 64) : 0;
                cut = places <= 128 ? high << (128 - places) : high >>> 1;
            }
            isCut = cut != 0 || isBeyond;
            if (isCut && roundsUp(cut, isBeyond, rounding, minus)) {
                kept++;
            }
        }

        private boolean roundsUp(long cut, boolean isBeyond, int rounding, boolean minus) {
            boolean isHalf = cut == Real.HIGHEST_BIT && !isBeyond;
            switch (rounding) {
                case Control.NEAREST:
                    return cut < 0 && (!isHalf || (kept & 1) != 0);
                case Control.DOWN:
                    return minus;
                case Control.UP:
                    return !minus;
                case Control.HALVES_TO_ZERO:
                    return cut < 0 && !isHalf;
                default:
                    return false;
            }
        }

        private static boolean isBelow(long a, long b) {
            return (a ^ Real.HIGHEST_BIT) < (b ^ Real.HIGHEST_BIT);
        }
    }

    /** Makes reals of exact sizes. */
    private static final class Maker {
        private static final int LEAST_EXPONENT = -16382;
        private static final int WRAP = 24576;

        private final Control control;

        Maker(Control control) {
            this.control = control;
        }

        void make(Size size, boolean minus, int digits, Real answer) {
            if (size.isNothing()) {
                answer.setZero(minus);
                return;
            }
            boolean isTiny = size.exponent() < LEAST_EXPONENT;
            if (isTiny && control.masks(Control.UNDER)) {
                makeTiny(size, minus, digits, answer);
                return;
            }
            size.round(128 - digits, control.rounding(), minus);
            long fraction = size.kept << (64 - digits);
            int power = size.exponent() + Real.BIAS;
            if (fraction == 0) {
                fraction = Real.HIGHEST_BIT;
                power++;
            }
            if (isTiny) {
                control.tell(Control.UNDER);
                power += WRAP;
            } else if (power >= Real.HIGHEST_POWER) {
                control.tell(Control.OVER);
                if (control.masks(Control.OVER)) {
                    makeGreatest(minus, digits, answer);
                    return;
                }
                power -= WRAP;
            }
            control.tell(size.isCut ? Control.LOSS : 0);
            answer.set(minus, power, fraction);
        }

        private void makeTiny(Size size, boolean minus, int digits, Real answer) {
            size.round(LEAST_EXPONENT + 1 - digits - size.unit, control.rounding(), minus);
            long fraction = size.kept << (64 - digits);
            control.tell(size.isCut ? Control.UNDER | Control.LOSS : 0);
            answer.set(minus, fraction < 0 ? 1 : 0, fraction);
        }

        private void makeGreatest(boolean minus, int digits, Real answer) {
            control.tell(Control.LOSS);
            if (control.overBecomesInfinite(minus)) {
                answer.setInfinite(minus);
            } else {
                answer.set(minus, Real.HIGHEST_POWER - 1, -1L << (64 - digits));
            }
        }
    }

    /** Sums, differences, products, quotients and roots, as exact as the control's precision says. */
    private static final class Operation {
        static final int SUM = 0;
        static final int DIFFERENCE = 1;
        static final int PRODUCT = 2;
        static final int QUOTIENT = 3;
        static final int ROOT = 4;

        private final Control control;
        private final Maker maker;
        private final Size x = new Size();
        private final Size y = new Size();

        Operation(Control control) {
            this.control = control;
            this.maker = new Maker(control);
        }

        /** For a root b is a once more. There is no answer when the code ENDS. */
        void operate(int kind, Real a, Real b, Real answer) {
            if (control.settles(a, b, cannotBe(kind, a, b), answer)) {
                return;
            }
            if (kind == QUOTIENT && b.isNothing() && !a.isInfinite()) {
                control.tell(Control.DIVISION);
                answer.setInfinite(a.minus != b.minus);
            } else if (a.isInfinite() || b.isInfinite()) {
                answerInfinite(kind, a, b, answer);
            } else {
                boolean minus = findSize(kind, a, b);
                maker.make(x, minus, control.digits(), answer);
            }
        }

        private boolean cannotBe(int kind, Real a, Real b) {
            boolean bothInfinite = a.isInfinite() && b.isInfinite();
            switch (kind) {
                case SUM:
                    return bothInfinite && (control.knowsOneInfinite() || a.minus != b.minus);
                case DIFFERENCE:
                    return bothInfinite && (control.knowsOneInfinite() || a.minus == b.minus);
                case PRODUCT:
                    return a.isInfinite() && b.isNothing() || a.isNothing() && b.isInfinite();
                case QUOTIENT:
                    return bothInfinite || a.isNothing() && b.isNothing() || b.isUnnormalSomething();
                default:
                    return a.minus && !a.isNothing() || a.isUnnormalSomething()
                        || a.isInfinite() && control.knowsOneInfinite();
            }
        }

        private void answerInfinite(int kind, Real a, Real b, Real answer) {
            if (kind == SUM || kind == DIFFERENCE) {
                answer.setInfinite(a.isInfinite() ? a.minus : b.minus != (kind == DIFFERENCE));
            } else if (kind == QUOTIENT && !a.isInfinite()) {
                answer.setZero(a.minus != b.minus);
            } else {
                answer.setInfinite(a.minus != b.minus);
            }
        }

        /** Leaves the exact size of the answer in x, and answers its sign. */
        private boolean findSize(int kind, Real a, Real b) {
            x.load(a);
            y.load(b);
            switch (kind) {
                case SUM:
                    return addWithSigns(a.minus, b.minus);
                case DIFFERENCE:
                    return addWithSigns(a.minus, !b.minus);
                case PRODUCT:
                    x.multiply(y);
                    return a.minus != b.minus;
                case QUOTIENT:
                    x.divide(y);
                    return a.minus != b.minus;
                default:
                    x.root();
                    return a.minus;
            }
        }

        /** Leaves the sum's size in x, and answers its sign. */
        private boolean addWithSigns(boolean minusX, boolean minusY) {
            int order = x.against(y);
            if (order < 0) {
                x.swap(y);
            }
            if (minusX == minusY) {
                x.add(y);
                return minusX;
            }
            x.subtract(y);
            if (order == 0) {
                return control.rounding() == Control.DOWN;
            }
            return order > 0 ? minusX : minusY;
        }
    }

    /** The steps that always have 64 digits. */
    private static final class Steps {
        static final int NO_ORDER = 2;

        private static final int DIGITS = 64;
        private static final int SCALE_LIMIT = 14;

        private final Control control;
        private final Maker maker;
        private final Size x = new Size();
        private final Size y = new Size();

        /** What the last REMAINDER found beside its answer; quotient is the lowest three bits. */
        boolean hasQuotient;
        boolean isPartial;
        int quotient;

        Steps(Control control) {
            this.control = control;
            this.maker = new Maker(control);
        }

        void makeWhole(Real a, Real answer) {
            if (control.settles(a, a, false, answer)) {
                return;
            }
            if (a.isInfinite()) {
                answer.take(a);
                return;
            }
            x.load(a);
            if (x.unit < -64) {
                x.round(-x.unit, control.rounding(), a.minus);
                control.tell(x.isCut ? Control.LOSS : 0);
                x.loadTimes(x.kept, 0);
            }
            maker.make(x, a.minus, DIGITS, answer);
        }

        void scale(Real a, Real b, Real answer) {
            y.load(b);
            int exponent = y.exponent();
            boolean cannotBe = b.isInfinite() || exponent >= SCALE_LIMIT;
            if (control.settles(a, b, cannotBe, answer)) {
                return;
            }
            if (a.isInfinite()) {
                answer.take(a);
                return;
            }
            int by = exponent < 0 ? 0 : (int) (y.high >>> (63 - exponent));
            x.load(a);
            x.unit += b.minus ? -by : by;
            maker.make(x, a.minus, DIGITS, answer);
        }

        void extract(Real a, Real power, Real fraction) {
            if (control.settles(a, a, false, fraction)) {
                power.take(fraction);
            } else if (a.isInfinite()) {
                power.setInfinite(false);
                fraction.take(a);
            } else if (a.isNothing()) {
                control.tell(Control.DIVISION);
                power.setInfinite(true);
                fraction.setZero(a.minus);
            } else {
                x.load(a);
                int exponent = x.exponent();
                x.unit = -127;
                maker.make(x, a.minus, DIGITS, fraction);
                x.loadTimes(exponent < 0 ? -exponent : exponent, 0);
                maker.make(x, exponent < 0, DIGITS, power);
            }
        }

        void takeRemainder(Real a, Real b, Real answer) {
            hasQuotient = false;
            boolean cannotBe = a.isInfinite() || b.isNothing() || b.kind() == Real.UNNORMAL;
            if (control.settles(a, b, cannotBe, answer)) {
                return;
            }
            hasQuotient = true;
            isPartial = false;
            quotient = 0;
            x.load(a);
            if (!b.isInfinite()) {
                y.load(b);
                int apart = x.exponent() - y.exponent();
                isPartial = apart >= DIGITS;
                if (apart >= 0) {
                    int places = isPartial ? DIGITS - 1 : apart;
                    quotient = x.reduce(y, places, apart - places);
                }
            }
            maker.make(x, a.minus, DIGITS, answer);
        }

        /** -1, 0, 1 or NO_ORDER; the scratch real is free to be changed. */
        int compare(Real a, Real b, Real scratch) {
            boolean one = control.knowsOneInfinite();
            if (control.settles(a, b, one && a.isInfinite() != b.isInfinite(), scratch)) {
                return NO_ORDER;
            }
            if (a.isInfinite() || b.isInfinite()) {
                int rankA = a.isInfinite() ? sign(a) : 0;
                int rankB = b.isInfinite() ? sign(b) : 0;
                return one || rankA == rankB ? 0 : rankA < rankB ? -1 : 1;
            }
            int signA = sign(a);
            int signB = sign(b);
            if (signA != signB) {
                return signA < signB ? -1 : 1;
            }
            x.load(a);
            y.load(b);
            return signA * x.against(y);
        }

        private static int sign(Real real) {
            if (real.isNothing()) {
                return 0;
            }
            return real.minus ? -1 : 1;
        }
    }

    /** The row of bytes in which operands stand, numbers with their lowest byte first. */
    private static final class Memory {
        static final int SIZE = 94;
        static final int WHOLE_16 = 0;
        static final int WHOLE_32 = 1;
        static final int WHOLE_64 = 2;
        static final int SHORT = 3;
        static final int LONG = 4;
        static final int DECIMALS = 5;
        static final int PATTERN = 6;

        private final byte[] bytes = new byte[SIZE];

        long bits(int from, int count) {
            long all = 0;
            for (int i = from + count - 1; i >= from; i--) {
                if (i >= 0 && i < SIZE) {
                    all = all << 8 | bytes[i] & 0xff;
                }
            }
            return all;
        }

        void put(int from, int count, long all) {
            for (int i = 0; i < count; i++) {
                if (from + i >= 0 && from + i < SIZE) {
                    bytes[from + i] = (byte) (all >>> (8 * i));
                }
            }
        }
    }

    /** Gives reals of what stands in memory. */
    private static final class Reader {
        private static final int DECIMAL_DIGITS = 18;

        private final Control control;
        private final Memory row;
        private final Size size = new Size();

        Reader(Control control, Memory row) {
            this.control = control;
            this.row = row;
        }

        void read(int format, Real into) {
            switch (format) {
                case Memory.WHOLE_16:
                    readWhole((short) row.bits(0, 2), into);
                    break;
                case Memory.WHOLE_32:
                    readWhole((int) row.bits(0, 4), into);
                    break;
                case Memory.WHOLE_64:
                    readWhole(row.bits(0, 8), into);
                    break;
                case Memory.SHORT:
                    readFloating(row.bits(0, 4) << 32, 8, into);
                    break;
                case Memory.LONG:
                    readFloating(row.bits(0, 8), 11, into);
                    break;
                case Memory.DECIMALS:
                    readDecimals(into);
                    break;
                default:
                    readPattern(0, into);
                    break;
            }
        }

        void readPattern(int from, Real into) {
            int top = (int) row.bits(from + 8, 2);
            into.set(top >= 0x8000, top & 0x7fff, row.bits(from, 8));
        }

        private void readWhole(long whole, Real into) {
            putNumber(whole < 0, whole < 0 ? -whole : whole, 0, into);
        }

        private void readDecimals(Real into) {
            long digits = 0;
            for (int i = DECIMAL_DIGITS - 1; i >= 0; i--) {
                digits = digits * 10 + (row.bits(i >> 1, 1) >> (4 * (i & 1)) & 15);
            }
            putNumber(row.bits(9, 1) >= 0x80, digits, 0, into);
        }

        /** A SHORT one stands in the upper half of the pattern, so that both have the sign highest. */
        private void readFloating(long pattern, int powerBits, Real into) {
            boolean minus = pattern < 0;
            int allOnes = (1 << powerBits) - 1;
            int power = (int) (pattern >>> (63 - powerBits)) & allOnes;
            long fraction = pattern << (powerBits + 1) >>> 1;
            if (power == allOnes) {
                into.set(minus, Real.HIGHEST_POWER, Real.HIGHEST_BIT | fraction);
                return;
            }
            boolean isSmall = power == 0;
            if (isSmall && fraction != 0) {
                control.tell(Control.DENORMAL);
            }
            long whole = isSmall ? fraction : Real.HIGHEST_BIT | fraction;
            putNumber(minus, whole, (isSmall ? 1 : power) - (allOnes >> 1) - 63, into);
        }

        private void putNumber(boolean minus, long whole, int exponent, Real into) {
            if (whole == 0) {
                into.setZero(minus);
                return;
            }
            size.loadTimes(whole, exponent);
            into.set(minus, size.exponent() + Real.BIAS, size.high);
        }
    }

    /** Writes reals to memory; when the code ENDS nothing is written. */
    private static final class Writer {
        private static final long DECIMAL_LIMIT = 1000000000000000000L;
        private static final int DECIMAL_BYTES = 9;

        private final Control control;
        private final Memory row;
        /** That of the real that is being written; of what has no size it is not looked at. */
        private final Size size = new Size();

        Writer(Control control, Memory row) {
            this.control = control;
            this.row = row;
        }

        void write(int format, Real real) {
            size.load(real);
            switch (format) {
                case Memory.WHOLE_16:
                    writeWhole(2, real);
                    break;
                case Memory.WHOLE_32:
                    writeWhole(4, real);
                    break;
                case Memory.WHOLE_64:
                    writeWhole(8, real);
                    break;
                case Memory.SHORT:
                    writeFloating(4, 24, real);
                    break;
                case Memory.LONG:
                    writeFloating(8, 53, real);
                    break;
                case Memory.DECIMALS:
                    writeDecimals(real);
                    break;
                default:
                    writePattern(0, real);
                    break;
            }
        }

        void writePattern(int from, Real real) {
            row.put(from, 8, real.fraction);
            row.put(from + 8, 2, real.top());
        }

        private void writeWhole(int count, Real real) {
            long least = -1L << (8 * count - 1);
            long whole = least;
            if (roundToWhole(real, control.rounding()) && isWithin(size.kept, real.minus, least)) {
                whole = real.minus ? -size.kept : size.kept;
                control.tell(size.isCut ? Control.LOSS : 0);
            } else {
                control.tell(Control.INVALID);
            }
            if (!control.endsWriting()) {
                row.put(0, count, whole);
            }
        }

        /** Whether a size (without a sign) is one of the numbers from the least one on to as far above 0. */
        private static boolean isWithin(long kept, boolean minus, long least) {
            return kept >= 0 && kept <= -(least + 1) || minus && kept == -least;
        }

        /** Leaves the whole number in size.kept; false when 64 bits do not hold it. */
        private boolean roundToWhole(Real real, int rounding) {
            if (real.power == Real.HIGHEST_POWER || size.exponent() > 63) {
                return false;
            }
            size.round(-size.unit, rounding, real.minus);
            return true;
        }

        private void writeDecimals(Real real) {
            boolean fits = roundToWhole(real, Control.HALVES_TO_ZERO)
                && size.kept >= 0 && size.kept < DECIMAL_LIMIT;
            control.tell(!fits ? Control.INVALID : size.isCut ? Control.LOSS : 0);
            if (control.endsWriting()) {
                return;
            }
            if (!fits) {
                row.put(0, 8, 0xc0L << 56);
                row.put(8, 2, 0xffff);
                return;
            }
            long left = size.kept;
            for (int i = 0; i < DECIMAL_BYTES; i++) {
                int two = (int) (left % 100);
                row.put(i, 1, two / 10 << 4 | two % 10);
                left /= 100;
            }
            row.put(DECIMAL_BYTES, 1, real.minus ? 0x80 : 0);
        }

        private void writeFloating(int count, int digits, Real real) {
            int fractionBits = digits - 1;
            long allOnes = (1L << (8 * count - digits)) - 1 << fractionBits;
            boolean minus = real.minus;
            long pattern;
            if (real.isInfinite()) {
                pattern = allOnes;
            } else if (real.isNothing()) {
                pattern = 0;
            } else if (real.kind() == Real.NO_NUMBER) {
                control.tell(Control.INVALID);
                long upper = real.fraction << 1 >>> (64 - fractionBits);
                pattern = allOnes | (upper == 0 ? 1 : upper);
            } else if (real.isUnnormalSomething()) {
                control.tell(Control.INVALID);
                minus = true;
                pattern = allOnes | 1L << (fractionBits - 1);
            } else {
                pattern = numberPattern(real, digits, 1 << (8 * count - digits - 1), allOnes);
            }
            if (!control.endsWriting()) {
                row.put(0, count, pattern | (minus ? 1L << (8 * count - 1) : 0));
            }
        }

        /** The pattern without its sign; limit is the exponent that is too great. */
        private long numberPattern(Real real, int digits, int limit, long allOnes) {
            int exponent = size.exponent();
            if (exponent < 2 - limit) {
                size.round(3 - limit - digits - size.unit, control.rounding(), real.minus);
                boolean isTold = size.isCut || !control.masks(Control.UNDER);
                control.tell(isTold ? Control.UNDER : 0);
                control.tell(size.isCut && control.masks(Control.UNDER) ? Control.LOSS : 0);
                return size.kept;
            }
            if (exponent < limit) {
                size.round(128 - digits, control.rounding(), real.minus);
                // What is kept has one bit above the fraction's: it adds 1 to the power, and carries by itself.
                long pattern = ((long) (exponent + limit - 2) << (digits - 1)) + size.kept;
                if (pattern < allOnes) {
                    control.tell(size.isCut ? Control.LOSS : 0);
                    return pattern;
                }
            }
            control.tell(control.masks(Control.OVER) ? Control.OVER | Control.LOSS : Control.OVER);
            return control.overBecomesInfinite(real.minus) ? allOnes : allOnes - 1;
        }
    }
}
