/** The boundaries that the document names under REAL, THE CONTROL, TO ROUND, TO MAKE and AN OPERATION. */
public final class BoundariesOfNumbersTest extends Bench {
    private static final String THIRD_BELOW = "3ffd:aaaaaaaaaaaaaaaa";
    private static final String THIRD_ABOVE = "3ffd:aaaaaaaaaaaaaaab";

    // ---- REAL

    /** What EXAMINED says of it (2 more with the sign -), and its tag. */
    private static void isOfKind(String real, int examined, int tag) {
        for (int sign = 0; sign < 2; sign++) {
            given(N64 & ~63, sign == 0 ? real : "-" + real);
            run(EXAMINE);
            int seen = examined + 2 * sign;
            due(real + " examined", x.word(1), (seen & 7) << 8 | (seen & 8) << 11 | 7 << 11);
            due(real + " tag", x.word(2), tag << 14 | 0x3fff);
            told(0);
        }
    }

    private static void kinds() {
        sentence("0 ZERO (p and f are 0)");
        isOfKind("0", 8, 1);
        sentence("1 DENORMAL (p is 0, f is not)");
        isOfKind(LEAST, 12, 2);
        isOfKind("0000:7fffffffffffffff", 12, 2);
        isOfKind("0000:8", 12, 2);
        isOfKind("0000:0-1", 12, 2);
        sentence("2 UNNORMAL (p is 1 .. 32766, the highest bit of f is 0; f may be 0)");
        isOfKind("0001:0", 0, 1);
        isOfKind("0001:0+1", 0, 2);
        isOfKind("0001:7fffffffffffffff", 0, 2);
        isOfKind("7ffe:0", 0, 1);
        isOfKind("7ffe:0+1", 0, 2);
        isOfKind("7ffe:7fffffffffffffff", 0, 2);
        sentence("3 NORMAL (p is 1 .. 32766, the highest bit of f is 1)");
        isOfKind("0001:8", 4, 0);
        isOfKind("0001:0-1", 4, 0);
        isOfKind("7ffe:8", 4, 0);
        isOfKind(GREATEST, 4, 0);
        sentence("4 INFINITE (p is 32767, the lower 63 bits of f are 0, the highest is no matter)");
        isOfKind("7fff:0", 5, 2);
        isOfKind("7fff:8", 5, 2);
        sentence("5 NO NUMBER (p is 32767, others)");
        isOfKind("7fff:0+1", 1, 2);
        isOfKind("7fff:4", 1, 2);
        isOfKind("7fff:8+1", 1, 2);
        isOfKind("7fff:c", 1, 2);
        isOfKind("7fff:0-1", 1, 2);
        sentence("f times 2^(p - 16446), for p = 0 as for p = 1");
        orders(N64, "0000:8", "0001:8", C3, DENORMAL);
        orders(N64, "0000:4", "0001:4", C3, DENORMAL);
        orders(N64, "0001:4", "0002:2", C3, 0);
        orders(N64, "0000:0-1", "0002:8", C0, DENORMAL);
        gives(N64, TIMES, "0000:8", "1", "0001:8", DENORMAL);
        sentence("its NUMBER is that with its sign");
        orders(N64, "-0001:8", "-0001:4", C0, 0);
        orders(N64, "-0001:0+1", "0001:0+1", C0, 0);
    }

    // ---- THE CONTROL

    private static void masks() {
        sentence("Bits 0 to 5 are the MASKS (1: masked) of INVALID 1, DENORMAL 2, DIVISION 4, OVER 8, UNDER 16, LOSS 32");
        int none = N64 & ~63;
        gives(none | INVALID, BY, "0", "0", INDEFINITE, INVALID);
        endsWith(N64 & ~INVALID, BY, "0", "0", INVALID);
        gives(none | DENORMAL, TIMES, LEAST, "2^100", "2^-16345", DENORMAL);
        endsWith(N64 & ~DENORMAL, TIMES, LEAST, "2^100", DENORMAL);
        gives(none | DIVISION, BY, "1", "0", "inf", DIVISION);
        endsWith(N64 & ~DIVISION, BY, "1", "0", DIVISION);
        gives(none | OVER, TIMES, "2^16383", "2", "inf", OVER | LOSS);
        gives(N64 & ~OVER, TIMES, "2^16383", "2", "2^-8192", OVER);
        gives(none | UNDER, TIMES, "2^-16382", "2^-100", "0", UNDER | LOSS);
        gives(N64 & ~UNDER, TIMES, "2^-16382", "2^-100", "2^8094", UNDER);
        sentence("(that of LOSS changes no answer)");
        gives(N64, BY, "1", "3", THIRD_ABOVE, LOSS);
        gives(N64 & ~LOSS, BY, "1", "3", THIRD_ABOVE, LOSS);
        gives(N64 & ~LOSS, TIMES, GREATEST, "2", "inf", OVER | LOSS);
        gives(N64 & ~LOSS, WHOLE, "2.5", null, "2", LOSS);
        writes(N64 & ~LOSS, WRITE_32_POP, "2.5", 2, LOSS);
        writes(N64 & ~LOSS, WRITE_SHORT_POP, "3fff:8+1", 0x3f800000, LOSS);
        writes(N64 & ~LOSS, WRITE_DECIMALS_POP, "2.5", 2, 0, LOSS);
    }

    private static void requests() {
        sentence("bit 7 set: no REQUEST");
        given(N64 & ~INVALID);
        run(TURN_SIGN);
        due("a REQUEST", x.word(3), 1);
        due("status", x.word(1), 128 | INVALID);
        given(N64 & ~INVALID | 128);
        run(TURN_SIGN);
        due("no REQUEST", x.word(3), 0);
        due("status all the same", x.word(1), 128 | INVALID);
    }

    private static void precisions() {
        sentence("bits 8 and 9 the PRECISION n: 24 digits for 0, 53 for 2, 64 for 1 and 3");
        String[] thirds = {"3ffd:aaaaab", THIRD_ABOVE, "3ffd:aaaaaaaaaaaaa8", THIRD_ABOVE};
        for (int n = 0; n < 4; n++) {
            gives(0x7f | n << 8, BY, "1", "3", thirds[n], LOSS);
        }
        gives(N24, ADD, "3fff:ffffff", "0", "3fff:ffffff", 0);
        gives(N24, ADD, "3fff:ffffff8", "0", "2", LOSS);
        gives(N53, ADD, "3fff:fffffffffffff8", "0", "3fff:fffffffffffff8", 0);
        gives(N53, ADD, "3fff:fffffffffffffc", "0", "2", LOSS);
        gives(N64, ADD, "3fff:0-1", "0", "3fff:0-1", 0);
        gives(N64, ADD, "3fff:0-1", "2^-64", "2", LOSS);
        gives(N24, ROOT, "2", null, "3fff:b504f3", LOSS);
        gives(N53, ROOT, "2", null, "3fff:b504f333f9de68", LOSS);
    }

    private static void roundings() {
        sentence("0 to the nearest (of two that are as near that whose last digit is 0)");
        gives(N64, BY, "1", "3", THIRD_ABOVE, LOSS);
        gives(N64, BY, "-1", "3", "-" + THIRD_ABOVE, LOSS);
        gives(N64, ADD, "1", "2^-64", "1", LOSS);
        gives(N64, ADD, "3fff:8+1", "2^-64", "3fff:8+2", LOSS);
        gives(N64, ADD, "-1", "-2^-64", "-1", LOSS);
        gives(N64, ADD, "-3fff:8+1", "-2^-64", "-3fff:8+2", LOSS);
        gives(N64, ADD, "1", "3fbf:8+1", "3fff:8+1", LOSS);
        gives(N64, ADD, "3fff:8+1", "3fbe:0-1", "3fff:8+1", LOSS);
        gives(N24, ADD, "3fff:8000008", "0", "1", LOSS);
        gives(N24, ADD, "3fff:8000018", "0", "3fff:800002", LOSS);
        gives(N24, ADD, "3fff:8000008+1", "0", "3fff:800001", LOSS);
        gives(N53, ADD, "3fff:80000000000004", "0", "1", LOSS);
        gives(N53, ADD, "3fff:8000000000000c", "0", "3fff:8000000000001", LOSS);
        sentence("1 down");
        gives(N64 | DOWN, BY, "1", "3", THIRD_BELOW, LOSS);
        gives(N64 | DOWN, ADD, "1", "2^-16382", "1", LOSS);
        gives(N64 | DOWN, LESS, "1", "2^-16382", "3ffe:0-1", LOSS);
        sentence("(down is, with the sign -, the greater size)");
        gives(N64 | DOWN, BY, "-1", "3", "-" + THIRD_ABOVE, LOSS);
        gives(N64 | DOWN, LESS, "-1", "2^-16382", "-3fff:8+1", LOSS);
        sentence("2 up");
        gives(N64 | UP, BY, "1", "3", THIRD_ABOVE, LOSS);
        gives(N64 | UP, BY, "-1", "3", "-" + THIRD_BELOW, LOSS);
        gives(N64 | UP, ADD, "1", "2^-16382", "3fff:8+1", LOSS);
        gives(N64 | UP, ADD, "-1", "2^-16382", "-3ffe:0-1", LOSS);
        sentence("3 towards 0");
        gives(N64 | CHOP, BY, "1", "3", THIRD_BELOW, LOSS);
        gives(N64 | CHOP, BY, "-1", "3", "-" + THIRD_BELOW, LOSS);
        gives(N64 | CHOP, LESS, "1", "2^-16382", "3ffe:0-1", LOSS);
        gives(N64 | CHOP, ADD, "-1", "2^-16382", "-3ffe:0-1", LOSS);
        sentence("is to take a multiple of the unit: x itself, or that just below or just above it");
        for (int rounding : ROUNDINGS) {
            gives(N64 | rounding, ADD, "1", "2^-63", "3fff:8+1", 0);
            gives(N64 | rounding, ADD, "-1", "-2^-63", "-3fff:8+1", 0);
            gives(N24 | rounding, TIMES, "3", "-3", "-9", 0);
            gives(N24 | rounding, ROOT, "9", null, "3", 0);
        }
    }

    private static void roundingOfLongSums() {
        sentence("x itself, or that just below or just above it, as rounding and sign say");
        String above = "3fff:8+1";
        String below = "3ffe:0-1";
        for (int d = 62; d < 200; d++) {
            String small = "2^-" + d;
            gives(N64, ADD, "1", small, d == 62 ? "3fff:8+2" : d == 63 ? above : "1", d < 64 ? 0 : LOSS);
            gives(N64 | CHOP, ADD, "1", small, d == 62 ? "3fff:8+2" : d == 63 ? above : "1", d < 64 ? 0 : LOSS);
            gives(N64 | UP, ADD, small, "1", d == 62 ? "3fff:8+2" : above, d < 64 ? 0 : LOSS);
            gives(N64, LESS, "1", small, d < 65 ? exactBelowOne(d) : "1", d < 65 ? 0 : LOSS);
            gives(N64 | DOWN, LESS, "1", small, d < 65 ? exactBelowOne(d) : below, d < 65 ? 0 : LOSS);
            gives(N64 | UP, LESS_TURNED, small, "1", d < 65 ? exactBelowOne(d) : "1", d < 65 ? 0 : LOSS);
        }
        for (int d = 64; d < 200; d++) {
            String small = Integer.toHexString(0x3fff - d) + ":8+1";
            gives(N64, ADD, "1", small, d == 64 ? above : "1", LOSS);
            gives(N64 | UP, ADD, "1", small, above, LOSS);
            gives(N64 | DOWN, ADD, "-1", "-" + small, "-" + above, LOSS);
            gives(N64, LESS, "1", small, d <= 65 ? below : "1", LOSS);
            gives(N64 | CHOP, LESS, "1", small, d == 64 ? "3ffe:0-2" : below, LOSS);
            gives(N64 | UP, LESS, "1", small, d == 64 ? below : "1", LOSS);
        }
        sentence("6 The exact number is made, with what is told of it.");
        gives(N64, LESS, "1", "3ffe:0-1", "2^-64", 0);
        gives(N64, LESS, "3fff:8+1", "1", "2^-63", 0);
        gives(N64, ADD, above, above, "4000:8+1", 0);
        gives(N64, ADD, "3fff:0-1", "3fff:0-1", "4000:0-1", 0);
        gives(N64, ADD, "3fff:0-1", "3ffe:0-1", "4000:c-1", LOSS);
        gives(N64, TIMES, "3fff:8000000080000000", "3fff:8000000080000000", "3fff:8000000100000000", LOSS);
        gives(N64, TIMES, "3fff:8000000080000000", "3fff:8000000180000000", "3fff:8000000200000002", LOSS);
        gives(N64, TIMES, "3fff:0-1", "3fff:0-1", "4000:0-2", LOSS);
        gives(N64 | UP, TIMES, "3fff:0-1", "3fff:0-1", "4000:0-1", LOSS);
        gives(N24, ADD, "3fff:8000008", "2^-100", "3fff:800001", LOSS);
        gives(N24 | UP, ADD, "1", "2^-100", "3fff:800001", LOSS);
        gives(N24, LESS, "3fff:8000018", "2^-100", "3fff:800001", LOSS);
        gives(N53, ADD, "3fff:80000000000004", "2^-100", "3fff:80000000000008", LOSS);
        gives(N53 | UP, ADD, "1", "2^-300", "3fff:80000000000008", LOSS);
        gives(N53, LESS, "3fff:8000000000000c", "2^-300", "3fff:80000000000008", LOSS);
    }

    /** 1 - 2^-d for d 62 to 64. */
    private static String exactBelowOne(int d) {
        return "3ffe:0-" + (1 << 64 - d);
    }

    private static void roundingOfRoots() {
        sentence("the root of a .. The exact number is made");
        String[] from = {"4000:0-1", "3fff:8+1", "3fff:8+2", "3ffe:0-1", "3ffe:0-2"};
        String[] nearest = {"3fff:0-1", "1", "3fff:8+1", "3ffe:0-1", "3ffe:0-1"};
        String[] lower = {"3fff:0-1", "1", "1", "3ffe:0-1", "3ffe:0-2"};
        String[] upper = {"2", "3fff:8+1", "3fff:8+1", "1", "3ffe:0-1"};
        for (int i = 0; i < from.length; i++) {
            gives(N64, ROOT, from[i], null, nearest[i], LOSS);
            gives(N64 | DOWN, ROOT, from[i], null, lower[i], LOSS);
            gives(N64 | CHOP, ROOT, from[i], null, lower[i], LOSS);
            gives(N64 | UP, ROOT, from[i], null, upper[i], LOSS);
        }
        // e = 2^-31 - 2^-62 has (1 + e)^2 just below 1 + 2 e + 2^-62: that one's root is 1 + e and 2^-93 or so.
        gives(N64, ROOT, "3fff:80000001fffffffe", null, "3fff:80000000fffffffe", LOSS);
        gives(N64 | CHOP, ROOT, "3fff:80000001fffffffe", null, "3fff:80000000fffffffe", LOSS);
        gives(N64 | UP, ROOT, "3fff:80000001fffffffe", null, "3fff:80000000ffffffff", LOSS);
        // To 128 digits: b504f333f9de6484 597d89b3754abe9f, ddb3d742c265539d 92ba16b83c5c1dc4.
        gives(N64, ROOT, "2", null, "3fff:b504f333f9de6484", LOSS);
        gives(N64 | UP, ROOT, "2", null, "3fff:b504f333f9de6485", LOSS);
        gives(N64, ROOT, "3", null, "3fff:ddb3d742c265539e", LOSS);
        gives(N64 | CHOP, ROOT, "3", null, "3fff:ddb3d742c265539d", LOSS);
        gives(N64, ROOT, "403e:fffffffe00000001", null, "4294967295", 0);
    }

    private static void views() {
        sentence("bit 12 the VIEW: 0 one infinite number alone, 1 two of them");
        gives(N64, ADD, "inf", "inf", INDEFINITE, INVALID);
        gives(N64 | VIEW, ADD, "inf", "inf", "inf", 0);
        gives(N64, ROOT, "inf", null, INDEFINITE, INVALID);
        gives(N64 | VIEW, ROOT, "inf", null, "inf", 0);
        orders(N64, "inf", "1", C0 | C2 | C3, INVALID);
        orders(N64 | VIEW, "inf", "1", 0, 0);
        sentence("Others are kept");
        for (int bit = 0; bit < 16; bit++) {
            given(1 << bit);
            due("bit " + bit, x.word(0), 1 << bit);
            fill(0);
            run(WRITE_CONTROL);
            due("written", memoryBits(0, 2), 1 << bit);
            run(WRITE_ENVIRONMENT);
            due("in the environment", memoryBits(0, 2), 1 << bit);
        }
    }

    // ---- TO MAKE

    private static void nothingMade() {
        sentence("x = 0: ZERO with the sign.");
        gives(N64 & ~63, TIMES, "-0", "1", "-0", 0);
        gives(N64 & ~63, TIMES, "7ffe:0", "7ffe:8", "0", 0);
        gives(N64 & ~63, WHOLE, "-7ffe:0", null, "-0", 0);
        gives(N64 & ~63, SCALE, "-0001:0", "16383", "-0", 0);
        gives(N64 & ~63, BY, "-0", "-1", "0", 0);
    }

    private static void tooSmallMasked() {
        sentence("If x < 2^-16382: with UNDER masked the answer is x rounded to the unit 2^(-16381 - n)");
        gives(N64 | CHOP, TIMES, "0001:8+1", "1", "0001:8+1", 0);
        gives(N64, TIMES, "2^-16382", "2^-63", "2^-16445", 0);
        gives(N64, TIMES, "2^-16382", "2^-64", "0", UNDER | LOSS);
        gives(N64, TIMES, "0001:8+1", "2^-64", LEAST, UNDER | LOSS);
        gives(N64, TIMES, "0001:c", "2^-63", "0000:0+2", UNDER | LOSS);
        gives(N64, TIMES, "0001:a", "2^-62", "0000:0+2", UNDER | LOSS);
        gives(N64, TIMES, "0001:a+1", "2^-62", "0000:0+3", UNDER | LOSS);
        gives(N64, TIMES, "2^-16382", "2^-65", "0", UNDER | LOSS);
        gives(N64, TIMES, "2^-16382", "2^-16382", "0", UNDER | LOSS);
        gives(N53, TIMES, "2^-16382", "2^-52", "0000:0+2048", 0);
        gives(N53, TIMES, "2^-16382", "2^-53", "0", UNDER | LOSS);
        gives(N53, TIMES, "0001:8+1", "2^-53", "0000:0+2048", UNDER | LOSS);
        gives(N24, TIMES, "2^-16382", "2^-23", "0000:000001", 0);
        gives(N24, TIMES, "2^-16382", "2^-24", "0", UNDER | LOSS);
        gives(N24, TIMES, "0001:8+1", "2^-24", "0000:000001", UNDER | LOSS);
        gives(N64 | UP, TIMES, "2^-16382", "2^-16382", LEAST, UNDER | LOSS);
        gives(N64 | UP, TIMES, "-2^-16382", "2^-16382", "-0", UNDER | LOSS);
        gives(N64 | DOWN, TIMES, "2^-16382", "2^-16382", "0", UNDER | LOSS);
        gives(N64 | DOWN, TIMES, "-2^-16382", "2^-16382", "-" + LEAST, UNDER | LOSS);
        gives(N64 | CHOP, TIMES, "-2^-16382", "2^-16382", "-0", UNDER | LOSS);
        gives(N24 | UP, TIMES, "2^-16382", "2^-16382", "0000:000001", UNDER | LOSS);
        sentence("if that is not x, UNDER and LOSS are told");
        gives(N64, TIMES, "2^-16382", "0.5", "0000:4", 0);
        gives(N64, TIMES, "0001:8+1", "0.5", "0000:4", UNDER | LOSS);
        gives(N64, TIMES, "0001:8+2", "0.5", "0000:4+1", 0);
        sentence("The answer is NORMAL, or, if it is below 2^-16382, DENORMAL or ZERO.");
        gives(N64, TIMES, "0001:0-1", "0.5", "0001:8", UNDER | LOSS);
        gives(N64 | CHOP, TIMES, "0001:0-1", "0.5", "0000:7fffffffffffffff", UNDER | LOSS);
        gives(N24, TIMES, "0001:ffffff", "0.5", "0001:8", UNDER | LOSS);
        gives(N64, ADD, "0001:8", "0", "0001:8", 0);
        gives(N64, ADD, "0003:1", "0", "0000:4", 0);
        gives(N64, ADD, "0004:1", "0", "0001:8", 0);
    }

    private static void tooSmallNotMasked() {
        int c = N64 & ~UNDER;
        sentence("If x < 2^-16382: .. Not masked: the answer is y times 2^24576, UNDER is told, and LOSS if y is not x.");
        gives(c, TIMES, "2^-16382", "1", "2^-16382", 0);
        gives(c, TIMES, "2^-16382", "0.5", "2^8193", UNDER);
        gives(c, TIMES, "0001:0-1", "0.5", "6000:0-1", UNDER);
        gives(c, TIMES, "-0001:8+1", "3fbf:8+1", "-5fc1:8+2", UNDER | LOSS);
        gives(N53 & ~UNDER, TIMES, "0001:0-1", "0.5", "2^8194", UNDER | LOSS);
        gives(N24 & ~UNDER | CHOP, TIMES, "0001:0-1", "0.5", "6000:ffffff", UNDER | LOSS);
        gives(c, TIMES, LEAST, LEAST, "2^-8314", DENORMAL | UNDER);
        gives(c, ADD, "0000:7fffffffffffffff", "0", "6000:fffffffffffffffe", DENORMAL | UNDER);
        gives(c, ADD, "0000:8", "0", "2^-16382", DENORMAL);
        gives(c, SCALE, "-" + LEAST, "-16383", "-2^-8252", DENORMAL | UNDER);
        gives(c, BY, "2^-16382", GREATEST, "2001:8+1", UNDER | LOSS);
    }

    private static void tooGreat() {
        sentence("Otherwise, if y >= 2^16384, OVER is told");
        gives(N64 & ~OVER, ADD, GREATEST, "0", GREATEST, 0);
        gives(N64, ADD, GREATEST, "2^16318", GREATEST, LOSS);
        gives(N64, ADD, GREATEST, "7fbd:0-1", GREATEST, LOSS);
        gives(N64, ADD, GREATEST, "2^16319", "inf", OVER | LOSS);
        gives(N64 | CHOP, ADD, GREATEST, "2^16319", GREATEST, LOSS);
        gives(N64 | DOWN, ADD, GREATEST, "2^16319", GREATEST, LOSS);
        gives(N64 | UP, ADD, "-" + GREATEST, "-2^16319", "-" + GREATEST, LOSS);
        gives(N64 | UP, ADD, GREATEST, "1", "inf", OVER | LOSS);
        gives(N53, ADD, "7ffe:fffffffffffffc", "0", "inf", OVER | LOSS);
        gives(N53, ADD, "7ffe:fffffffffffffc-1", "0", "7ffe:fffffffffffff8", LOSS);
        gives(N24, ADD, "7ffe:ffffff8", "0", "inf", OVER | LOSS);
        gives(N24, ADD, "7ffe:ffffff8-1", "0", "7ffe:ffffff", LOSS);
        sentence("masked LOSS is told, too, and the answer is infinite (f is 2^63) when the rounding is to the nearest or goes"
            + " away from 0 (up without, down with the sign -)");
        gives(N64, ADD, "2^16383", "2^16383", "inf", OVER | LOSS);
        gives(N64, ADD, "-2^16383", "-2^16383", "-inf", OVER | LOSS);
        gives(N64 | UP, ADD, "2^16383", "2^16383", "inf", OVER | LOSS);
        gives(N64 | DOWN, ADD, "-2^16383", "-2^16383", "-inf", OVER | LOSS);
        sentence("or else the greatest real of n digits");
        gives(N64 | DOWN, ADD, "2^16383", "2^16383", GREATEST, OVER | LOSS);
        gives(N64 | UP, ADD, "-2^16383", "-2^16383", "-" + GREATEST, OVER | LOSS);
        gives(N64 | CHOP, ADD, "2^16383", "2^16383", GREATEST, OVER | LOSS);
        gives(N64 | CHOP, ADD, "-2^16383", "-2^16383", "-" + GREATEST, OVER | LOSS);
        gives(N53 | CHOP, TIMES, GREATEST, "2", "7ffe:fffffffffffff8", OVER | LOSS);
        gives(N24 | CHOP, TIMES, GREATEST, "2", "7ffe:ffffff", OVER | LOSS);
        sentence("Not masked: the answer is y times 2^-24576, and LOSS is told if y is not x.");
        gives(N64 & ~OVER, ADD, "2^16383", "2^16383", "2^-8192", OVER);
        gives(N64 & ~OVER, ADD, GREATEST, "2^16319", "2^-8192", OVER | LOSS);
        gives(N64 & ~OVER, TIMES, GREATEST, "-" + GREATEST, "-5ffe:fffffffffffffffe", OVER | LOSS);
        gives(N64 & ~OVER, BY, GREATEST, LEAST, "603b:0-1", DENORMAL | OVER);
        gives(N24 & ~OVER | CHOP, TIMES, GREATEST, "2", "1fff:ffffff", OVER | LOSS);
        sentence("What is told is a sum: OVER 8, UNDER 16, LOSS 32.");
        gives(N64, TIMES, GREATEST, GREATEST, "inf", 8 + 32);
        gives(N64 & ~OVER, ADD, GREATEST, GREATEST, "1fff:0-1", 8);
        gives(N64, TIMES, "2^-16382", "2^-16382", "0", 16 + 32);
        gives(N64 & ~UNDER, TIMES, "2^-16382", "2^-16382", "2^-8188", 16);
        sentence("Otherwise the answer is y, and LOSS is told if y is not x.");
        gives(N64 & ~63 | LOSS, TIMES, "3fff:8+1", "3fff:8+1", "3fff:8+2", LOSS);
        gives(N64 & ~63 | LOSS, TIMES, "3fff:80000001", "3fff:80000001", "3fff:8000000200000002", 0);
        gives(N64, LESS, "2^-16382", "0000:0+1", "0000:7fffffffffffffff", DENORMAL);
    }

    // ---- AN OPERATION

    private static void allOperations() {
        sentence("AN OPERATION on a and b: 0 a + b; 1 a - b; 2 b - a; 3 a times b; 4 a / b; 5 b / a; 6 the root of a");
        gives(N64, ADD, "6", "3", "9", 0);
        gives(N64, LESS, "6", "3", "3", 0);
        gives(N64, LESS_TURNED, "6", "3", "-3", 0);
        gives(N64, TIMES, "6", "3", "18", 0);
        gives(N64, BY, "6", "3", "2", 0);
        gives(N64, BY_TURNED, "6", "3", "0.5", 0);
        gives(N64, ROOT, "36", "3", "6", 0);
        sentence("(b is no operand then)");
        gives(N64, ROOT, "36", "7fff:0-1", "6", 0);
        gives(N64, ROOT, "36", LEAST, "6", 0);
        given(N64 & ~INVALID, "36");
        run(ROOT);
        holds(0, "6");
        sentence("A real is NOTHING when its size is 0 (also an unnormal one).");
        gives(N64, BY, "1", "0001:0", "inf", DIVISION);
        gives(N64, BY, "1", "-7ffe:0", "-inf", DIVISION);
        gives(N64, BY, "7ffe:0", "0001:0", INDEFINITE, INVALID);
        gives(N64, TIMES, "inf", "4000:0", INDEFINITE, INVALID);
        gives(N64, ROOT, "-4000:0", null, "-0", 0);
        sentence("By - the second operand's sign is turned at first, also of what is infinite.");
        gives(N64, LESS, "1", "inf", "-inf", 0);
        gives(N64, LESS, "1", "-inf", "inf", 0);
        gives(N64, LESS_TURNED, "inf", "1", "-inf", 0);
        gives(N64, LESS_TURNED, "-inf", "1", "inf", 0);
        gives(N64, LESS, "-inf", "1", "-inf", 0);
        gives(N64, LESS, "-0", "0", "-0", 0);
        gives(N64, LESS_TURNED, "0", "-0", "-0", 0);
        sentence("The first of these that fits is done; what is told is the sum of all that is named on the way");
        gives(N64, ADD, "7fff:0+1", LEAST, "7fff:0+1", INVALID);
        gives(N64, TIMES, "inf", "7fff:0+1", "7fff:0+1", INVALID);
        gives(N64, BY, LEAST, "4000:1", INDEFINITE, INVALID);
        gives(N64, BY, LEAST, "0", "inf", DENORMAL | DIVISION);
        gives(N64, BY, LEAST, "2", "0", DENORMAL | UNDER | LOSS);
        gives(N64, BY, "1", LEAST, "inf", DENORMAL | OVER | LOSS);
        gives(N64, BY, "inf", "4000:1", INDEFINITE, INVALID);
        gives(N64, ROOT, "-" + LEAST, null, INDEFINITE, INVALID);
        sentence("when one of INVALID, DENORMAL, DIVISION is told that is not masked, nothing more is looked at, and no"
            + " register changes");
        endsWith(N64 & ~INVALID, TIMES, "7fff:0+1", LEAST, INVALID);
        endsWith(N64 & ~DENORMAL, BY, LEAST, "0", DENORMAL);
        endsWith(N64 & ~DENORMAL, TIMES, "2^-16382", LEAST, DENORMAL);
        endsWith(N64 & ~DIVISION, BY, LEAST, "0", DENORMAL | DIVISION);
        endsWith(N64 & ~DIVISION, 0x6f1, "1", "0", DIVISION);
        endsWith(N64 & ~DENORMAL, 0x4c9, LEAST, GREATEST, DENORMAL);
        endsWith(N64 & ~DENORMAL, ROOT, LEAST, null, DENORMAL);
    }

    private static void noNumbers() {
        int[] codes = {ADD, LESS, LESS_TURNED, TIMES, BY, BY_TURNED};
        sentence("1 An operand is no number: INVALID; the answer is that operand as it came (no sign turned)");
        for (int code : codes) {
            for (String other : new String[] {"1", "-0", "inf", LEAST, "4000:1"}) {
                gives(N64, code, "7fff:0+1", other, "7fff:0+1", INVALID);
                gives(N64, code, other, "-7fff:8+1", "-7fff:8+1", INVALID);
                endsWith(N64 & ~INVALID, code, other, "-7fff:8+1", INVALID);
            }
        }
        gives(N64, ROOT, "-7fff:0+1", null, "-7fff:0+1", INVALID);
        endsWith(N64 & ~INVALID, ROOT, "7fff:c", null, INVALID);
        sentence("of two the one with the greater fraction (as a number without sign)");
        for (int code : codes) {
            gives(N64, code, "7fff:0-1", "7fff:0+1", "7fff:0-1", INVALID);
            gives(N64, code, "7fff:7", "-7fff:8+1", "-7fff:8+1", INVALID);
            gives(N64, code, "-7fff:c+1", "7fff:c", "-7fff:c+1", INVALID);
        }
        sentence("of equal ones that without the sign -, of equal ones a");
        for (int code : codes) {
            gives(N64, code, "-7fff:c", "7fff:c", "7fff:c", INVALID);
            gives(N64, code, "7fff:0+1", "-7fff:0+1", "7fff:0+1", INVALID);
            gives(N64, code, "-7fff:c", "-7fff:c", "-7fff:c", INVALID);
        }
    }

    private static void whatCannotBe() {
        sentence("+ and - of two infinite ones (one infinite number: always");
        for (String a : new String[] {"inf", "-inf", "7fff:0", "-7fff:0"}) {
            for (String b : new String[] {"inf", "-inf", "7fff:0"}) {
                gives(N64, ADD, a, b, INDEFINITE, INVALID);
                gives(N64, LESS, a, b, INDEFINITE, INVALID);
                gives(N64, LESS_TURNED, a, b, INDEFINITE, INVALID);
            }
        }
        sentence("two: when the signs, after turning, differ)");
        int two = N64 | VIEW;
        gives(two, ADD, "inf", "-inf", INDEFINITE, INVALID);
        gives(two, ADD, "-inf", "7fff:0", INDEFINITE, INVALID);
        gives(two, ADD, "-7fff:0", "-7fff:0", "-inf", 0);
        gives(two, LESS, "inf", "inf", INDEFINITE, INVALID);
        gives(two, LESS, "-inf", "-inf", INDEFINITE, INVALID);
        gives(two, LESS, "-inf", "inf", "-inf", 0);
        gives(two, LESS, "inf", "-inf", "inf", 0);
        gives(two, LESS_TURNED, "inf", "inf", INDEFINITE, INVALID);
        gives(two, LESS_TURNED, "inf", "-inf", "-inf", 0);
        gives(two, LESS_TURNED, "-inf", "inf", "inf", 0);
        endsWith(two & ~INVALID, LESS, "inf", "inf", INVALID);
        sentence("infinite times nothing; infinite by infinite; nothing by nothing");
        for (int view = 0; view <= VIEW; view += VIEW) {
            gives(N64 | view, TIMES, "inf", "-0", INDEFINITE, INVALID);
            gives(N64 | view, TIMES, "0", "-7fff:0", INDEFINITE, INVALID);
            gives(N64 | view, TIMES, "inf", LEAST, "inf", DENORMAL);
            gives(N64 | view, BY, "inf", "-7fff:0", INDEFINITE, INVALID);
            gives(N64 | view, BY_TURNED, "7fff:0", "inf", INDEFINITE, INVALID);
            gives(N64 | view, BY, "0", "-0", INDEFINITE, INVALID);
            gives(N64 | view, BY_TURNED, "0001:0", "0", INDEFINITE, INVALID);
        }
        sentence("a divisor that is unnormal and not nothing");
        for (String a : new String[] {"1", "0", "inf", LEAST, "4000:1"}) {
            gives(N64, BY, a, "0001:0+1", INDEFINITE, INVALID);
            gives(N64, BY, a, "-7ffe:7fffffffffffffff", INDEFINITE, INVALID);
            gives(N64, BY_TURNED, "4000:4", a, INDEFINITE, INVALID);
        }
        gives(N64, BY, "4000:4", "1", "1", 0);
        gives(N64, BY, "1", "0000:7", "7ffd:9249249249249249", DENORMAL | LOSS);
    }

    private static void rootsThatCannotBe() {
        sentence("the root of what has the sign - and is not nothing, of an unnormal one that is not nothing, of an infinite"
            + " one when there is but one");
        gives(N64, ROOT, "-1", null, INDEFINITE, INVALID);
        gives(N64, ROOT, "-" + LEAST, null, INDEFINITE, INVALID);
        gives(N64 | VIEW, ROOT, "-inf", null, INDEFINITE, INVALID);
        gives(N64, ROOT, "-inf", null, INDEFINITE, INVALID);
        gives(N64, ROOT, "-0", null, "-0", 0);
        gives(N64, ROOT, "-7ffe:0", null, "-0", 0);
        gives(N64, ROOT, "4000:4", null, INDEFINITE, INVALID);
        gives(N64, ROOT, "0001:0+1", null, INDEFINITE, INVALID);
        gives(N64, ROOT, "-4000:4", null, INDEFINITE, INVALID);
        gives(N64, ROOT, "7fff:0", null, INDEFINITE, INVALID);
        gives(N64 | VIEW, ROOT, "7fff:0", null, "inf", 0);
        endsWith(N64 & ~INVALID, ROOT, "-1", null, INVALID);
    }

    private static void denormalAndDivision() {
        sentence("3 An operand is denormal: DENORMAL, and it goes on.");
        gives(N64, ADD, LEAST, LEAST, "0000:0+2", DENORMAL);
        gives(N64, ADD, "0", LEAST, LEAST, DENORMAL);
        gives(N64, ADD, "inf", LEAST, "inf", DENORMAL);
        gives(N64, LESS, LEAST, LEAST, "0", DENORMAL);
        gives(N64, TIMES, "0", LEAST, "0", DENORMAL);
        gives(N64, BY, "0", LEAST, "0", DENORMAL);
        gives(N64, BY, LEAST, LEAST, "1", DENORMAL);
        gives(N64, BY, LEAST, "inf", "0", DENORMAL);
        gives(N64, ROOT, "0000:0+2", null, "2^-8222", DENORMAL);
        gives(N64, ROOT, "0000:8", null, "2^-8191", DENORMAL);
        gives(N64, ADD, "0001:0+1", "0", LEAST, 0);
        sentence("4 What is not nothing and not infinite, by nothing: DIVISION; the answer is infinite (f 2^63).");
        gives(N64, BY, "1", "0", "inf", DIVISION);
        gives(N64, BY, "-1", "0", "-inf", DIVISION);
        gives(N64, BY, "1", "-0", "-inf", DIVISION);
        gives(N64, BY, "-1", "-0", "inf", DIVISION);
        gives(N64, BY, "4000:1", "0", "inf", DIVISION);
        gives(N64, BY, LEAST, "-0", "-inf", DENORMAL | DIVISION);
        gives(N64, BY_TURNED, "0", "-1", "-inf", DIVISION);
        gives(N64, BY, "inf", "0", "inf", 0);
        gives(N64 & ~DIVISION, BY, "7fff:0", "-0", "-inf", 0);
        sentence("5 An operand is infinite: for + and - the answer is infinite (f 2^63) with that operand's sign (after turning;"
            + " with two the same)");
        gives(N64, ADD, "-7fff:0", GREATEST, "-inf", 0);
        gives(N64, ADD, "-" + GREATEST, "7fff:0", "inf", 0);
        gives(N64, LESS, "4000:1", "7fff:0", "-inf", 0);
        gives(N64 | VIEW, ADD, "-7fff:0", "-inf", "-inf", 0);
        gives(N64 | VIEW, LESS, "7fff:0", "-7fff:0", "inf", 0);
        sentence("times and infinite by a number: infinite; a number by infinite: ZERO; the root: infinite");
        gives(N64, TIMES, "-7fff:0", LEAST, "-inf", DENORMAL);
        gives(N64, TIMES, "-2", "-7fff:0", "inf", 0);
        gives(N64, TIMES, "7fff:0", "7fff:0", "inf", 0);
        gives(N64, TIMES, "inf", "-inf", "-inf", 0);
        gives(N64, TIMES, "inf", "0001:0+1", "inf", 0);
        gives(N64, BY, "7fff:0", "-1", "-inf", 0);
        gives(N64, BY, "-7fff:0", "-0", "inf", 0);
        gives(N64, BY, "1", "-7fff:0", "-0", 0);
        gives(N64, BY, "-0", "-inf", "0", 0);
        gives(N64, BY, "4000:1", "inf", "0", 0);
        gives(N64 | VIEW, ROOT, "7fff:0", null, "inf", 0);
    }

    private static void exactNumbersOfNothing() {
        sentence("When it is 0: for + and - of two nothings with the same sign (after turning) that sign");
        for (int rounding : ROUNDINGS) {
            gives(N64 | rounding, ADD, "0", "0", "0", 0);
            gives(N64 | rounding, ADD, "-0", "-7ffe:0", "-0", 0);
            gives(N64 | rounding, LESS, "0", "-0", "0", 0);
            gives(N64 | rounding, LESS, "-0", "0001:0", "-0", 0);
            gives(N64 | rounding, LESS_TURNED, "-0", "0", "0", 0);
        }
        sentence("for others (also x - x) the sign - if rounding is down, otherwise not");
        for (int rounding : ROUNDINGS) {
            String zero = rounding == DOWN ? "-0" : "0";
            gives(N64 | rounding, ADD, "0", "-0", zero, 0);
            gives(N64 | rounding, ADD, "-4000:0", "0", zero, 0);
            gives(N64 | rounding, LESS, "0", "0", zero, 0);
            gives(N64 | rounding, LESS_TURNED, "-0", "-0", zero, 0);
            gives(N64 | rounding, LESS, "1", "1", zero, 0);
            gives(N64 | rounding, LESS, "-1", "-1", zero, 0);
            gives(N64 | rounding, ADD, "-1", "1", zero, 0);
            gives(N64 | rounding, ADD, "4000:4", "-1", zero, 0);
            gives(N64 | rounding, LESS_TURNED, GREATEST, GREATEST, zero, 0);
        }
        sentence("a root the sign of a");
        for (int rounding : ROUNDINGS) {
            gives(N64 | rounding, ROOT, "0", null, "0", 0);
            gives(N64 | rounding, ROOT, "-0", null, "-0", 0);
        }
        sentence("The sign of products and quotients (4, 5, 6) is - when those of a and b differ.");
        for (int rounding : ROUNDINGS) {
            gives(N64 | rounding, TIMES, "0", "-1", "-0", 0);
            gives(N64 | rounding, TIMES, "-0", "-1", "0", 0);
            gives(N64 | rounding, TIMES, "0", "-0", "-0", 0);
            gives(N64 | rounding, BY, "-0", "2", "-0", 0);
            gives(N64 | rounding, BY, "-0", "-2", "0", 0);
            gives(N64 | rounding, TIMES, "-2", "3", "-6", 0);
            gives(N64 | rounding, BY, "-6", "-3", "2", 0);
        }
    }

    public static void main(String[] args) {
        kinds();
        masks();
        requests();
        precisions();
        roundings();
        roundingOfLongSums();
        roundingOfRoots();
        views();
        nothingMade();
        tooSmallMasked();
        tooSmallNotMasked();
        tooGreat();
        allOperations();
        noNumbers();
        whatCannotBe();
        rootsThatCannotBe();
        denormalAndDivision();
        exactNumbersOfNothing();
        finish("numbers");
    }
}
