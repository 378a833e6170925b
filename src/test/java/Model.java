import java.math.BigInteger;

/**
 * The document once more, written for plainness alone: exact numbers are fractions (or roots of
 * fractions) of whole numbers without a limit, and a code that ENDS is left by an exception.
 */
final class Model {
    static final BigInteger ONE = BigInteger.ONE;
    static final BigInteger TOP_BIT = ONE.shiftLeft(63);

    static final class End extends RuntimeException {
        private static final long serialVersionUID = 1L;

        End() {
            super(null, null, false, false);
        }
    }

    /** A real: its sign, power and fraction. */
    record R(boolean minus, int p, BigInteger f) {
        int kind() {
            boolean high = f.testBit(63);
            if (p == 0) {
                return f.signum() == 0 ? 0 : 1;
            }
            if (p < 32767) {
                return high ? 3 : 2;
            }
            return f.clearBit(63).signum() == 0 ? 4 : 5;
        }

        boolean nothing() {
            return kind() < 4 && f.signum() == 0;
        }

        R turned() {
            return new R(!minus, p, f);
        }

        Exact size() {
            return new Exact(f, ONE, false).scaled(Math.max(p, 1) - 16446);
        }
    }

    static final R ZERO = new R(false, 0, BigInteger.ZERO);
    static final R INDEFINITE = new R(true, 32767, BigInteger.valueOf(3).shiftLeft(62));

    static R infinite(boolean minus) {
        return new R(minus, 32767, TOP_BIT);
    }

    /** num / den, or its root. */
    record Exact(BigInteger num, BigInteger den, boolean root) {
        Exact scaled(int by) {
            return by >= 0 ? new Exact(num.shiftLeft(by), den, root) : new Exact(num, den.shiftLeft(-by), root);
        }

        int compareTo(BigInteger m, int q) {
            BigInteger what = root ? m.multiply(m) : m;
            int by = root ? 2 * q : q;
            BigInteger a = num;
            BigInteger b = den.multiply(what);
            return by >= 0 ? a.compareTo(b.shiftLeft(by)) : a.shiftLeft(-by).compareTo(b);
        }

        BigInteger floor(int q) {
            int by = root ? 2 * q : q;
            BigInteger a = by >= 0 ? num : num.shiftLeft(-by);
            BigInteger b = by >= 0 ? den.shiftLeft(by) : den;
            return root ? a.divide(b).sqrt() : a.divide(b);
        }

        int k() {
            int guess = num.bitLength() - den.bitLength();
            if (root) {
                guess = Math.floorDiv(guess, 2);
            }
            guess += 2;
            while (compareTo(ONE, guess) < 0) {
                guess--;
            }
            return guess;
        }
    }

    int control = 0x3ff;
    int status;
    int conditions;
    int top;
    final boolean[] empty = new boolean[8];
    final R[] registers = new R[8];
    final int[] bytes = new int[94];
    int code;
    int codePlace;
    int operandPlace;
    int told;
    private boolean lossy;

    Model() {
        for (int i = 0; i < 8; i++) {
            empty[i] = true;
            registers[i] = ZERO;
        }
    }

    // ---- telling, rounding, making

    private boolean masked(int what) {
        return (control & what) != 0;
    }

    private void tell(int what) {
        told |= what;
        if ((what & ~control & 7) != 0) {
            throw new End();
        }
    }

    private int rounding() {
        return control >> 10 & 3;
    }

    private boolean oneInfinite() {
        return (control & 0x1000) == 0;
    }

    private int digits() {
        return new int[] {24, 64, 53, 64}[control >> 8 & 3];
    }

    private boolean away(boolean minus) {
        return rounding() == 0 || rounding() == 2 && !minus || rounding() == 1 && minus;
    }

    /** How many units; lossy says whether that is not x. Mode 4: nearest, halves towards 0. */
    private BigInteger round(Exact x, int q, boolean minus, int mode) {
        BigInteger m = x.floor(q);
        lossy = x.compareTo(m, q) != 0;
        if (!lossy) {
            return m;
        }
        int half = x.compareTo(m.shiftLeft(1).add(ONE), q - 1);
        boolean up = switch (mode) {
            case 0 -> half > 0 || half == 0 && m.testBit(0);
            case 1 -> minus;
            case 2 -> !minus;
            case 3 -> false;
            default -> half > 0;
        };
        return up ? m.add(ONE) : m;
    }

    /** m times 2^q as a real; it is one. */
    private static R real(boolean minus, BigInteger m, int q) {
        if (m.signum() == 0) {
            return new R(minus, 0, m);
        }
        int k = m.bitLength() - 1 + q;
        int lowest = Math.max(k - 63, -16445);
        BigInteger f = lowest <= q ? m.shiftLeft(q - lowest) : m.shiftRight(lowest - q);
        return new R(minus, f.testBit(63) ? lowest + 16446 : 0, f);
    }

    private R make(boolean minus, Exact x, int n) {
        if (x.num().signum() == 0) {
            return new R(minus, 0, BigInteger.ZERO);
        }
        int k = x.k();
        boolean tiny = x.compareTo(ONE, -16382) < 0;
        if (tiny && masked(16)) {
            BigInteger m = round(x, -16381 - n, minus, rounding());
            tell(lossy ? 48 : 0);
            return real(minus, m, -16381 - n);
        }
        int q = k + 1 - n;
        BigInteger y = round(x, q, minus, rounding());
        if (tiny) {
            tell(lossy ? 48 : 16);
            return real(minus, y, q + 24576);
        }
        if (y.bitLength() + q > 16384) {
            if (!masked(8)) {
                tell(lossy ? 40 : 8);
                return real(minus, y, q - 24576);
            }
            tell(40);
            return away(minus) ? infinite(minus) : real(minus, ONE.shiftLeft(n).subtract(ONE), 16384 - n);
        }
        tell(lossy ? 32 : 0);
        return real(minus, y, q);
    }

    // ---- operations and steps

    private static R choose(R a, R b) {
        if (a.kind() == 5 && b.kind() == 5) {
            int order = a.f.compareTo(b.f);
            if (order != 0) {
                return order > 0 ? a : b;
            }
            return a.minus ? b : a;
        }
        return a.kind() == 5 ? a : b;
    }

    private R operate(int op, R a, R b) {
        if (op == 2) {
            return operate(1, b, a);
        }
        if (op == 5) {
            return operate(4, b, a);
        }
        if (a.kind() == 5 || b.kind() == 5) {
            tell(1);
            return choose(a, b);
        }
        boolean differ = a.minus != b.minus;
        boolean infA = a.kind() == 4;
        boolean infB = b.kind() == 4;
        R c = op == 1 ? b.turned() : b;
        boolean wrong = switch (op) {
            case 0, 1 -> infA && infB && (oneInfinite() || a.minus != c.minus);
            case 3 -> infA && b.nothing() || infB && a.nothing();
            case 4 -> infA && infB || a.nothing() && b.nothing() || b.kind() == 2 && !b.nothing();
            default -> a.minus && !a.nothing() || a.kind() == 2 && !a.nothing() || infA && oneInfinite();
        };
        if (wrong) {
            tell(1);
            return INDEFINITE;
        }
        if (a.kind() == 1 || b.kind() == 1) {
            tell(2);
        }
        if (op == 4 && b.nothing() && !infA) {
            tell(4);
            return infinite(differ);
        }
        if (infA || infB) {
            return switch (op) {
                case 0, 1 -> infinite(infA ? a.minus : c.minus);
                case 3 -> infinite(differ);
                case 4 -> infA ? infinite(differ) : new R(differ, 0, BigInteger.ZERO);
                default -> infinite(false);
            };
        }
        Exact x = a.size();
        Exact y = b.size();
        return switch (op) {
            case 0, 1 -> sum(a, c);
            case 3 -> make(differ, new Exact(x.num.multiply(y.num), x.den.multiply(y.den), false), digits());
            case 4 -> make(differ, new Exact(x.num.multiply(y.den), x.den.multiply(y.num), false), digits());
            default -> make(a.minus, new Exact(x.num, x.den, true), digits());
        };
    }

    private R sum(R a, R c) {
        if (a.nothing() && c.nothing() && a.minus == c.minus) {
            return new R(a.minus, 0, BigInteger.ZERO);
        }
        Exact x = a.size();
        Exact y = c.size();
        BigInteger s = x.num.multiply(y.den);
        BigInteger t = y.num.multiply(x.den);
        BigInteger sum = (a.minus ? s.negate() : s).add(c.minus ? t.negate() : t);
        boolean minus = sum.signum() == 0 ? rounding() == 1 : sum.signum() < 0;
        return make(minus, new Exact(sum.abs(), x.den.multiply(y.den), false), digits());
    }

    /** What steps look at first; null when they go on. */
    private R look(R a, R b, boolean cannot) {
        if (a.kind() == 5 || b.kind() == 5) {
            tell(1);
            return choose(a, b);
        }
        if (cannot) {
            tell(1);
            return INDEFINITE;
        }
        if (a.kind() == 1 || b.kind() == 1) {
            tell(2);
        }
        return null;
    }

    private R whole(R a) {
        R first = look(a, a, false);
        if (first != null) {
            return first;
        }
        if (a.kind() == 4) {
            return a;
        }
        BigInteger m = round(a.size(), 0, a.minus, rounding());
        tell(lossy ? 32 : 0);
        return make(a.minus, new Exact(m, ONE, false), 64);
    }

    private R scale(R a, R b) {
        boolean great = b.kind() < 4 && b.size().compareTo(ONE, 14) >= 0;
        R first = look(a, b, b.kind() == 4 || great);
        if (first != null) {
            return first;
        }
        if (a.kind() == 4) {
            return a;
        }
        int n = b.size().floor(0).intValueExact();
        return make(a.minus, a.size().scaled(b.minus ? -n : n), 64);
    }

    /** The power, then the fraction. */
    private R[] extract(R a) {
        R first = look(a, a, false);
        if (first != null) {
            return new R[] {first, first};
        }
        if (a.kind() == 4) {
            return new R[] {infinite(false), a};
        }
        if (a.nothing()) {
            tell(4);
            return new R[] {infinite(true), new R(a.minus, 0, BigInteger.ZERO)};
        }
        int k = a.size().k();
        R power = make(k < 0, new Exact(BigInteger.valueOf(Math.abs(k)), ONE, false), 64);
        return new R[] {power, make(a.minus, a.size().scaled(-k), 64)};
    }

    private R remainder(R a, R b) {
        R first = look(a, b, a.kind() == 4 || b.nothing() || b.kind() == 2);
        if (first != null) {
            return first;
        }
        BigInteger q = BigInteger.ZERO;
        boolean partial = false;
        Exact left = a.size();
        if (b.kind() != 4 && !a.nothing()) {
            int d = a.size().k() - b.size().k();
            partial = d >= 64;
            Exact by = b.size().scaled(partial ? d - 63 : 0);
            q = a.size().num.multiply(by.den).divide(a.size().den.multiply(by.num));
            BigInteger rest = left.num.multiply(by.den).subtract(q.multiply(by.num).multiply(left.den));
            left = new Exact(rest, left.den.multiply(by.den), false);
        }
        R answer = make(a.minus, left, 64);
        conditions = (q.testBit(2) ? 0x100 : 0) | (q.testBit(0) ? 0x200 : 0)
            | (partial ? 0x400 : 0) | (q.testBit(1) ? 0x4000 : 0);
        return answer;
    }

    private int compare(R a, R b) {
        boolean infA = a.kind() == 4;
        boolean infB = b.kind() == 4;
        if (look(a, b, oneInfinite() && infA != infB) != null) {
            return 2;
        }
        if (infA && infB) {
            return oneInfinite() ? 0 : Boolean.compare(b.minus, a.minus);
        }
        if (infA) {
            return a.minus ? -1 : 1;
        }
        if (infB) {
            return b.minus ? 1 : -1;
        }
        Exact x = a.size();
        Exact y = b.size();
        BigInteger s = x.num.multiply(y.den);
        BigInteger t = y.num.multiply(x.den);
        return (a.minus ? s.negate() : s).compareTo(b.minus ? t.negate() : t);
    }

    // ---- memory

    private BigInteger bits(int from, int count) {
        BigInteger all = BigInteger.ZERO;
        for (int i = count - 1; i >= 0; i--) {
            all = all.shiftLeft(8).or(BigInteger.valueOf(bytes[from + i]));
        }
        return all;
    }

    private int two(int from) {
        return bits(from, 2).intValue();
    }

    private void put(int from, int count, BigInteger all) {
        for (int i = 0; i < count; i++) {
            bytes[from + i] = all.shiftRight(8 * i).and(BigInteger.valueOf(255)).intValue();
        }
    }

    private void put(int from, int count, long all) {
        put(from, count, BigInteger.valueOf(all));
    }

    private R pattern(int from) {
        int head = two(from + 8);
        return new R(head > 32767, head % 32768, bits(from, 8));
    }

    private void putPattern(int from, R r) {
        put(from, 8, r.f);
        put(from + 8, 2, r.p + (r.minus ? 32768 : 0));
    }

    private R read(int format) {
        switch (format) {
            case 0, 1, 2: {
                int count = 2 << format;
                BigInteger whole = bits(0, count);
                if (whole.testBit(8 * count - 1)) {
                    whole = whole.subtract(ONE.shiftLeft(8 * count));
                }
                return real(whole.signum() < 0, whole.abs(), 0);
            }
            case 3:
                return readFloating(bits(0, 4), 23, 255);
            case 4:
                return readFloating(bits(0, 8), 52, 2047);
            case 5: {
                BigInteger digits = BigInteger.ZERO;
                BigInteger ten = ONE;
                for (int i = 0; i < 18; i++) {
                    int digit = i % 2 == 0 ? bytes[i / 2] % 16 : bytes[i / 2] / 16;
                    digits = digits.add(ten.multiply(BigInteger.valueOf(digit)));
                    ten = ten.multiply(BigInteger.TEN);
                }
                return real(bytes[9] > 127, digits, 0);
            }
            default:
                return pattern(0);
        }
    }

    private R readFloating(BigInteger all, int width, int ones) {
        BigInteger f = all.mod(ONE.shiftLeft(width));
        int q = all.shiftRight(width).intValue() & ones;
        boolean minus = all.shiftRight(width).intValue() > ones;
        if (q == ones) {
            return new R(minus, 32767, TOP_BIT.add(f.shiftLeft(63 - width)));
        }
        if (q > 0) {
            return real(minus, f.add(ONE.shiftLeft(width)), q - ones / 2 - width);
        }
        if (f.signum() > 0) {
            tell(2);
        }
        return real(minus, f, 1 - ones / 2 - width);
    }

    private void write(int format, R r) {
        switch (format) {
            case 0, 1, 2: {
                BigInteger limit = ONE.shiftLeft((16 << format) - 1);
                BigInteger whole = r.kind() > 3 ? limit : round(r.size(), 0, r.minus, rounding());
                BigInteger signed = r.minus ? whole.negate() : whole;
                if (r.kind() > 3 || signed.compareTo(limit) >= 0 || signed.compareTo(limit.negate()) < 0) {
                    tell(1);
                    signed = limit.negate();
                } else {
                    tell(lossy ? 32 : 0);
                }
                put(0, 2 << format, signed);
                break;
            }
            case 3:
                writeFloating(r, 24, 128);
                break;
            case 4:
                writeFloating(r, 53, 1024);
                break;
            case 5:
                writeDecimals(r);
                break;
            default:
                putPattern(0, r);
                break;
        }
    }

    private void writeDecimals(R r) {
        BigInteger whole = r.kind() > 3 ? null : round(r.size(), 0, r.minus, 4);
        if (whole == null || whole.compareTo(BigInteger.TEN.pow(18)) >= 0) {
            tell(1);
            for (int i = 0; i < 10; i++) {
                bytes[i] = i < 7 ? 0 : i == 7 ? 192 : 255;
            }
            return;
        }
        tell(lossy ? 32 : 0);
        String digits = String.format("%018d", whole);
        for (int i = 0; i < 9; i++) {
            bytes[i] = Integer.parseInt(digits.substring(16 - 2 * i, 18 - 2 * i), 16);
        }
        bytes[9] = r.minus ? 128 : 0;
    }

    private void writeFloating(R r, int n, int e) {
        int width = n - 1;
        BigInteger ones = BigInteger.valueOf(2L * e - 1).shiftLeft(width);
        int count = n == 24 ? 4 : 8;
        BigInteger sign = r.minus ? ONE.shiftLeft(8 * count - 1) : BigInteger.ZERO;
        BigInteger body;
        if (r.kind() == 4) {
            body = ones;
        } else if (r.kind() == 5) {
            tell(1);
            BigInteger upper = r.f.clearBit(63).shiftRight(63 - width);
            body = ones.add(upper.max(ONE));
        } else if (r.nothing()) {
            body = BigInteger.ZERO;
        } else if (r.kind() == 2) {
            tell(1);
            sign = ONE.shiftLeft(8 * count - 1);
            body = ones.add(ONE.shiftLeft(width - 1));
        } else {
            body = floatingBody(r, n, e, ones);
        }
        put(0, count, sign.add(body));
    }

    private BigInteger floatingBody(R r, int n, int e, BigInteger ones) {
        Exact x = r.size();
        int k = x.k();
        if (k < 2 - e) {
            if (!masked(16)) {
                told |= 16;
                throw new End();
            }
            BigInteger m = round(x, 3 - e - n, r.minus, rounding());
            tell(lossy ? 48 : 0);
            return m;
        }
        BigInteger y = round(x, k + 1 - n, r.minus, rounding());
        if (y.bitLength() == n + 1) {
            y = y.shiftRight(1);
            k++;
        }
        if (k >= e) {
            told |= 8;
            if (!masked(8)) {
                throw new End();
            }
            tell(32);
            return away(r.minus) ? ones : ones.subtract(ONE);
        }
        tell(lossy ? 32 : 0);
        return BigInteger.valueOf(k + e - 1).shiftLeft(n - 1).add(y.clearBit(n - 1));
    }

    // ---- the stack

    private int at(int k) {
        return (top + k) % 8;
    }

    private R need(int k) {
        if (empty[at(k)]) {
            tell(1);
            return INDEFINITE;
        }
        return registers[at(k)];
    }

    private void keep(int k, R r) {
        registers[at(k)] = r;
        empty[at(k)] = false;
    }

    private void pop() {
        empty[top] = true;
        top = at(1);
    }

    private void pushAnyway(R r) {
        top = at(7);
        keep(0, r);
    }

    private boolean full() {
        if (!empty[at(7)]) {
            tell(1);
            return true;
        }
        return false;
    }

    // ---- words

    int statusWord() {
        return status | ((status & ~control) != 0 ? 128 : 0) | conditions | top << 11;
    }

    int tagWord() {
        int all = 0;
        for (int i = 0; i < 8; i++) {
            int tag = empty[i] ? 3 : registers[i].nothing() ? 1 : registers[i].kind() == 3 ? 0 : 2;
            all += tag << 2 * i;
        }
        return all;
    }

    int word(int what) {
        return switch (what) {
            case 0 -> control;
            case 1 -> statusWord();
            case 2 -> tagWord();
            case 3 -> (status & ~control) != 0 && (control & 128) == 0 ? 1 : 0;
            case 4 -> code;
            case 5 -> codePlace;
            case 6 -> operandPlace;
            default -> told;
        };
    }

    int part(int k, int what) {
        R r = registers[at(k)];
        return what == 0 ? r.p + (r.minus ? 32768 : 0)
            : what == 1 ? r.f.shiftRight(32).intValue() : r.f.intValue();
    }

    private void initial() {
        control = 0x3ff;
        status = 0;
        conditions = 0;
        top = 0;
        for (int i = 0; i < 8; i++) {
            empty[i] = true;
        }
        code = 0;
        codePlace = 0;
        operandPlace = 0;
    }

    private void writeEnvironment() {
        int[] words = {control, statusWord(), tagWord(), codePlace % 65536, codePlace / 65536 * 4096 + code,
            operandPlace % 65536, operandPlace / 65536 * 4096};
        for (int i = 0; i < 7; i++) {
            put(2 * i, 2, words[i]);
        }
    }

    private void readEnvironment() {
        control = two(0);
        status = two(2) & 63;
        conditions = two(2) & 0x4700;
        top = two(2) / 2048 % 8;
        for (int i = 0; i < 8; i++) {
            empty[i] = (two(4) >> 2 * i) % 4 == 3;
        }
        code = two(8) % 2048;
        codePlace = two(8) / 4096 * 65536 + two(6);
        operandPlace = two(12) / 4096 * 65536 + two(10);
    }

    // ---- codes

    int execute(int op, int b, int place, int operand) {
        String name = name(op, b);
        if (name.equals("no code")) {
            return 1;
        }
        if (name.equals("refused")) {
            return 2;
        }
        told = 0;
        try {
            perform(name, op, b >> 3 & 7, b & 7);
        } catch (End e) {
            // What was told by then is kept.
        }
        status |= told;
        if (!name.startsWith("-")) {
            code = op * 256 + b;
            codePlace = place;
            operandPlace = operand;
        }
        return 0;
    }

    /** What a code does, in a word or two; with a - those that keep no pointers. */
    static String name(int op, int b) {
        int r = b >> 3 & 7;
        int i = b & 7;
        if (b < 192) {
            if (op % 2 == 0) {
                return "operand";
            }
            String[] names = new String[][] {
                {"push", "no code", "write", "write pop", "-read env", "-read control", "-write env", "-write control"},
                {"push", "no code", "write", "write pop", "no code", "push pattern", "no code", "write pop pattern"},
                {"push", "no code", "write", "write pop", "-restore", "no code", "-save", "-write status"},
                {"push", "no code", "write", "write pop", "push decimals", "push 64", "write pop decimals", "write pop 64"}
            }[op / 2];
            return names[r];
        }
        switch (op) {
            case 0:
                return "registers";
            case 1:
                return nameOfOwn(r, i);
            case 3:
                return r == 4 && i < 4 ? "-control" : "no code";
            case 4:
                return r == 2 || r == 3 ? "no code" : "registers";
            case 5:
                return r == 0 ? "free" : r == 2 || r == 3 ? "move" : "no code";
            case 6:
                return r == 2 || r == 3 && i != 1 ? "no code" : "registers";
            default:
                return "no code";
        }
    }

    private static String nameOfOwn(int r, int i) {
        String none = "no code";
        return switch (r) {
            case 0 -> "push register";
            case 1 -> "exchange";
            case 2 -> i == 0 ? "nothing" : none;
            case 4 -> new String[] {"turn", "plain", none, none, "test", "examine", none, none}[i];
            case 5 -> i == 7 ? none : "constant";
            case 6 -> new String[] {"refused", "refused", "refused", "refused", "extract", none, "less", "more"}[i];
            case 7 -> new String[] {"remainder", "refused", "root", none, "whole", "scale", none, none}[i];
            default -> none;
        };
    }

    static int needs(int op, int b) {
        int plain = new int[] {4, 4, 8, 2}[op / 2];
        return switch (name(op, b)) {
            case "operand", "push" -> plain;
            case "write", "write pop" -> -plain;
            case "-read env" -> 14;
            case "-write env" -> -14;
            case "-read control" -> 2;
            case "-write control", "-write status" -> -2;
            case "push pattern", "push decimals" -> 10;
            case "write pop pattern", "write pop decimals" -> -10;
            case "push 64" -> 8;
            case "write pop 64" -> -8;
            case "-restore" -> 94;
            case "-save" -> -94;
            default -> 0;
        };
    }

    private void perform(String name, int op, int r, int i) {
        int plain = new int[] {3, 1, 4, 0}[op / 2];
        switch (name) {
            case "operand": {
                R a = need(0);
                two(r, a, read(plain), 0, r == 3 ? 1 : 0);
                break;
            }
            case "registers": {
                R a = need(0);
                int pops = op == 6 ? r == 3 ? 2 : 1 : r == 3 ? 1 : 0;
                two(r, a, need(i), op == 0 ? 0 : i, pops);
                break;
            }
            case "push":
                pushAnyway(full() ? INDEFINITE : read(plain));
                break;
            case "push pattern":
                pushAnyway(full() ? INDEFINITE : read(6));
                break;
            case "push decimals":
                pushAnyway(full() ? INDEFINITE : read(5));
                break;
            case "push 64":
                pushAnyway(full() ? INDEFINITE : read(2));
                break;
            case "write":
                write(plain, need(0));
                break;
            case "write pop":
                write(plain, need(0));
                pop();
                break;
            case "write pop pattern":
                write(6, need(0));
                pop();
                break;
            case "write pop decimals":
                write(5, need(0));
                pop();
                break;
            case "write pop 64":
                write(2, need(0));
                pop();
                break;
            default:
                performMore(name, r, i);
                break;
        }
    }

    private void performMore(String name, int r, int i) {
        switch (name) {
            case "-read env":
                readEnvironment();
                break;
            case "-write env":
                writeEnvironment();
                break;
            case "-read control":
                control = two(0);
                break;
            case "-write control":
                put(0, 2, control);
                break;
            case "-write status":
                put(0, 2, statusWord());
                break;
            case "-save":
                writeEnvironment();
                for (int k = 0; k < 8; k++) {
                    putPattern(14 + 10 * k, registers[at(k)]);
                }
                initial();
                break;
            case "-restore":
                readEnvironment();
                for (int k = 0; k < 8; k++) {
                    registers[at(k)] = pattern(14 + 10 * k);
                }
                break;
            case "-control":
                if (i == 0) {
                    control &= 0xff7f;
                } else if (i == 1) {
                    control |= 0x80;
                } else if (i == 2) {
                    status = 0;
                } else {
                    initial();
                }
                break;
            case "free":
                empty[at(i)] = true;
                break;
            case "move":
                keep(i, need(0));
                if (r == 3) {
                    pop();
                }
                break;
            default:
                performOwn(name, i);
                break;
        }
    }

    private void performOwn(String name, int i) {
        switch (name) {
            case "push register": {
                R a = need(i);
                pushAnyway(full() ? INDEFINITE : a);
                break;
            }
            case "exchange": {
                R a = need(0);
                R b = need(i);
                keep(0, b);
                keep(i, a);
                break;
            }
            case "turn":
                keep(0, need(0).turned());
                break;
            case "plain":
                keep(0, new R(false, need(0).p, need(0).f));
                break;
            case "test":
                compared(compare(need(0), ZERO));
                break;
            case "examine": {
                R a = registers[top];
                int seen = empty[top] ? 9 : new int[] {8, 12, 0, 4, 5, 1}[a.kind()] + (a.minus ? 2 : 0);
                conditions = (seen & 1) * 0x100 + (seen >> 1 & 1) * 0x200 + (seen >> 2 & 1) * 0x400
                    + (seen >> 3 & 1) * 0x4000;
                break;
            }
            case "constant":
                pushAnyway(full() ? INDEFINITE : constant(i));
                break;
            case "extract": {
                R a = need(0);
                boolean full = full();
                R[] both = extract(a);
                keep(0, both[0]);
                pushAnyway(full ? INDEFINITE : both[1]);
                break;
            }
            case "less":
                top = at(7);
                break;
            case "more":
                top = at(1);
                break;
            case "remainder": {
                R a = need(0);
                keep(0, remainder(a, need(1)));
                break;
            }
            case "root":
                keep(0, operate(6, need(0), ZERO));
                break;
            case "whole":
                keep(0, whole(need(0)));
                break;
            case "scale": {
                R a = need(0);
                keep(0, scale(a, need(1)));
                break;
            }
            default:
                break;
        }
    }

    /** Nearest to their first 40 decimal places, of which the 20th would be enough. */
    static R constant(int i) {
        String[] texts = {"1", "3.3219280948873623478703194294893901758648",
            "1.4426950408889634073599246810018921374266", "3.1415926535897932384626433832795028841972",
            "0.3010299956639811952137388947244930267682", "0.6931471805599453094172321214581765680755", "0"};
        BigInteger scaled = new java.math.BigDecimal(texts[i]).movePointRight(40).toBigIntegerExact();
        if (scaled.signum() == 0) {
            return ZERO;
        }
        Exact x = new Exact(scaled, BigInteger.TEN.pow(40), false);
        int q = x.k() - 63;
        BigInteger twice = x.floor(q - 1);
        return real(false, twice.add(ONE).shiftRight(1), q);
    }

    private void two(int r, R a, R x, int target, int pops) {
        if (r == 2 || r == 3) {
            compared(compare(a, x));
        } else {
            int op = new int[] {0, 3, -1, -1, 1, 2, 4, 5}[r];
            keep(target, operate(op, a, x));
        }
        for (int i = 0; i < pops; i++) {
            pop();
        }
    }

    private void compared(int order) {
        conditions = conditions & 0x200 | (order == 2 ? 0x4500 : order < 0 ? 0x100 : order == 0 ? 0x4000 : 0);
    }
}
