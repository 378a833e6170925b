/** The boundaries that the document names under MEMORY, FORMATS, READING and WRITING. */
public final class BoundariesOfFormatsTest extends Bench {
    private static final int[] ALL_WRITES = {WRITE_SHORT, WRITE_SHORT_POP, WRITE_32, WRITE_32_POP, WRITE_LONG, WRITE_LONG_POP,
        WRITE_16, WRITE_16_POP, WRITE_DECIMALS_POP, WRITE_64_POP};

    private static void memory() {
        sentence("MEMORY is a row of 94 bytes; operands stand in it from byte 0 on, numbers of several bytes with the lowest"
            + " first.");
        given(N64);
        due("byte 93", thrown(() -> x.byteAt(93)), 0);
        due("byte 94", thrown(() -> x.byteAt(94)), 1);
        reads(N64, PUSH_32, 4, 0x01020304, "16909060", 0);
        writes(N64, WRITE_32, "16909060", 0x01020304, 0);
    }

    // ---- READING

    private static void wholeNumbers() {
        sentence("0, 1, 2 WHOLE numbers of 16, 32 and 64 bits, with sign (the highest bit is 2^15, 2^31, 2^63 less)");
        int c = N64 & ~63;
        reads(c, PUSH_16, 2, 0x7fff, "32767", 0);
        reads(c, PUSH_16, 2, 0x8000, "-32768", 0);
        reads(c, PUSH_16, 2, 0x8001, "-32767", 0);
        reads(c, PUSH_16, 2, 0xffff, "-1", 0);
        reads(c, PUSH_16, 2, 1, "1", 0);
        reads(c, PUSH_32, 4, 0x7fffffff, "2147483647", 0);
        reads(c, PUSH_32, 4, 0x80000000L, "-2147483648", 0);
        reads(c, PUSH_32, 4, 0x80000001L, "-2147483647", 0);
        reads(c, PUSH_32, 4, -1, "-1", 0);
        reads(c, PUSH_64, 8, Long.MAX_VALUE, "403d:fffffffffffffffe", 0);
        reads(c, PUSH_64, 8, Long.MIN_VALUE, "-2^63", 0);
        reads(c, PUSH_64, 8, Long.MIN_VALUE + 1, "-403d:fffffffffffffffe", 0);
        reads(c, PUSH_64, 8, -1, "-1", 0);
        reads(c, PUSH_64, 8, 1, "1", 0);
        sentence("ZERO with its sign (whole numbers: without)");
        reads(c, PUSH_16, 2, 0, "0", 0);
        reads(c, PUSH_32, 4, 0, "0", 0);
        reads(c, PUSH_64, 8, 0, "0", 0);
        reads(c, PUSH_SHORT, 4, 0, "0", 0);
        reads(c, PUSH_SHORT, 4, 0x80000000L, "-0", 0);
        reads(c, PUSH_LONG, 8, 0, "0", 0);
        reads(c, PUSH_LONG, 8, Long.MIN_VALUE, "-0", 0);
    }

    private static void shortAndLong() {
        int c = N64 & ~63;
        sentence("For q from 1 to all but one it is 1.f times 2^(q - B)");
        reads(c, PUSH_SHORT, 4, 0x00800000, "2^-126", 0);
        reads(c, PUSH_SHORT, 4, 0x80800001L, "-3f81:800001", 0);
        reads(c, PUSH_SHORT, 4, 0x3f800000, "1", 0);
        reads(c, PUSH_SHORT, 4, 0xbfc00000L, "-1.5", 0);
        reads(c, PUSH_SHORT, 4, 0x7f7fffff, "407e:ffffff", 0);
        reads(c, PUSH_SHORT, 4, 0xff7fffffL, "-407e:ffffff", 0);
        reads(c, PUSH_LONG, 8, 0x0010000000000000L, "2^-1022", 0);
        reads(c, PUSH_LONG, 8, 0x8010000000000001L, "-3c01:80000000000008", 0);
        reads(c, PUSH_LONG, 8, 0x3ff0000000000000L, "1", 0);
        reads(c, PUSH_LONG, 8, 0x7fefffffffffffffL, "43fe:fffffffffffff8", 0);
        sentence("for q = 0 it is 0.f times 2^(1 - B) (0: zero)");
        reads(N64, PUSH_SHORT, 4, 1, "2^-149", DENORMAL);
        reads(N64, PUSH_SHORT, 4, 0x80000001L, "-2^-149", DENORMAL);
        reads(N64, PUSH_SHORT, 4, 0x00400000, "2^-127", DENORMAL);
        reads(N64, PUSH_SHORT, 4, 0x007fffff, "3f80:fffffe", DENORMAL);
        reads(N64, PUSH_LONG, 8, 1, "2^-1074", DENORMAL);
        reads(N64, PUSH_LONG, 8, 0x8008000000000000L, "-2^-1023", DENORMAL);
        reads(N64, PUSH_LONG, 8, 0x000fffffffffffffL, "3c00:fffffffffffff", DENORMAL);
        sentence("for all ones it is infinite when f is 0, otherwise no number");
        for (long f = 0; f < 2; f++) {
            given(c);
            put(0, 4, 0x7f800000 | f);
            run(PUSH_SHORT, EXAMINE);
            due("SHORT " + f, conditions(), f == 0 ? C0 | C2 : C0);
            put(0, 8, 0x7ff0000000000000L | f);
            run(PUSH_LONG, EXAMINE);
            due("LONG " + f, conditions(), f == 0 ? C0 | C2 : C0);
        }
        sentence("What is infinite becomes so (f 2^63)");
        reads(c, PUSH_SHORT, 4, 0x7f800000, "inf", 0);
        reads(c, PUSH_SHORT, 4, 0xff800000L, "-inf", 0);
        reads(c, PUSH_LONG, 8, 0x7ff0000000000000L, "inf", 0);
        reads(c, PUSH_LONG, 8, 0xfff0000000000000L, "-inf", 0);
        sentence("what is no number becomes p 32767 and f 2^63 + f times 2^40 (2^11)");
        reads(c, PUSH_SHORT, 4, 0x7f800001, "7fff:800001", 0);
        reads(c, PUSH_SHORT, 4, 0xffc00000L, "-7fff:c", 0);
        reads(c, PUSH_SHORT, 4, 0x7fffffff, "7fff:ffffff", 0);
        reads(c, PUSH_LONG, 8, 0x7ff0000000000001L, "7fff:80000000000008", 0);
        reads(c, PUSH_LONG, 8, 0xfff8000000000000L, "-7fff:c", 0);
        reads(c, PUSH_LONG, 8, 0x7fffffffffffffffL, "7fff:fffffffffffff8", 0);
        reads(c, PUSH_LONG, 8, -1, "-7fff:fffffffffffff8", 0);
        reads(c, PUSH_SHORT, 4, -1, "-7fff:ffffff", 0);
    }

    private static void denormalReading() {
        sentence("A SHORT or LONG one that is not 0 with q = 0 tells DENORMAL; when that is not masked nothing changes.");
        int c = N64 & ~DENORMAL;
        int[] codes = {PUSH_SHORT, PUSH_LONG};
        for (int code : codes) {
            for (long bits : new long[] {1, 0x007fffffL, code == PUSH_SHORT ? 0x80000001L : 0x8000000000000001L}) {
                given(c, "7");
                put(0, 8, bits);
                ends(code, DENORMAL);
            }
            given(c, "7");
            put(0, 8, 0);
            run(code);
            told(0);
            holds(0, "0");
        }
        for (int r = 0; r < 8; r++) {
            given(c, "7");
            put(0, 4, 1);
            ends(r << 3, DENORMAL);
            given(c, "7");
            put(0, 8, 1);
            ends(0x400 | r << 3, DENORMAL);
        }
        given(N64, "0");
        put(0, 4, 0x00400000);
        run(0x000);
        holds(0, "2^-127");
        told(DENORMAL);
        given(N64, "inf");
        put(0, 8, 1);
        run(0x420);
        holds(0, "inf");
        told(DENORMAL);
    }

    private static void decimalsRead() {
        int c = N64 & ~63;
        sentence("DECIMALS have the sign as the highest bit of byte 9, the other bits of which do not count when it is read");
        for (int high = 0; high < 256; high++) {
            given(c);
            fill(0xff);
            put(0, 8, 0x42);
            put(8, 2, high << 8);
            run(PUSH_DECIMALS);
            holds(0, high < 128 ? "42" : "-42");
        }
        sentence("bytes 0 to 8 are two digits each, the lower one in the lower four bits, the lowest first");
        long ten = 1;
        for (int digit = 0; digit < 18; digit++) {
            given(c);
            fill(0);
            put(digit / 2, 1, digit % 2 == 0 ? 0x07 : 0x70);
            run(PUSH_DECIMALS);
            holds(0, Long.toString(7 * ten));
            ten *= 10;
        }
        given(c);
        put(0, 8, 0x9999999999999999L);
        put(8, 2, 0x99);
        run(PUSH_DECIMALS);
        holds(0, "999999999999999999");
        sentence("four bits above 9 count as they are");
        given(c);
        put(0, 8, -1);
        put(8, 2, 0xffff);
        run(PUSH_DECIMALS);
        holds(0, "-1666666666666666665");
        given(c);
        put(0, 8, 0xaL);
        put(8, 2, 0);
        run(PUSH_DECIMALS);
        holds(0, "10");
        sentence("Decimals are digits times tens.");
        given(c);
        put(0, 8, 0);
        put(8, 2, 0x8000);
        run(PUSH_DECIMALS);
        holds(0, "-0");
        told(0);
        given(c);
        put(0, 8, 0x3456789012345678L);
        put(8, 2, 0x12);
        run(PUSH_DECIMALS);
        holds(0, "123456789012345678");
    }

    private static void patternsRead() {
        sentence("Format 6 is copied.");
        for (String real : new String[] {"0", "-0", LEAST, "0000:0-1", "-0001:0", "7ffe:1", "7fff:0", "-7fff:0+1", "7fff:0-1"}) {
            given(N64 & ~63);
            putReal(0, real);
            run(PUSH_PATTERN);
            holds(0, real);
            told(0);
        }
    }

    // ---- WRITING

    private static void wholeWritten() {
        sentence("WHOLE: x is rounded to a whole number; if it is one of the format that is written, and LOSS told if it is not"
            + " x.");
        writes(N64, WRITE_16, "32767", 0x7fff, 0);
        writes(N64, WRITE_16, "-32768", 0x8000, 0);
        writes(N64, WRITE_16, "32767.25", 0x7fff, LOSS);
        writes(N64 | CHOP, WRITE_16, "32767.75", 0x7fff, LOSS);
        writes(N64 | DOWN, WRITE_16, "32767.75", 0x7fff, LOSS);
        writes(N64, WRITE_16, "-32768.5", 0x8000, LOSS);
        writes(N64 | UP, WRITE_16, "-32768.75", 0x8000, LOSS);
        writes(N64 | CHOP, WRITE_16_POP, "-32768.75", 0x8000, LOSS);
        writes(N64, WRITE_16, "-0", 0, 0);
        writes(N64, WRITE_16, "7ffe:0", 0, 0);
        writes(N64, WRITE_16, "-0.5", 0, LOSS);
        writes(N64 | DOWN, WRITE_16, "-" + LEAST, 0xffff, LOSS);
        writes(N64 | UP, WRITE_16, LEAST, 1, LOSS);
        writes(N64, WRITE_16, LEAST, 0, LOSS);
        writes(N64, WRITE_16, "4000:4", 1, 0);
        writes(N64, WRITE_16, "403d:0+1", 0, LOSS);
        writes(N64, WRITE_32, "2147483647", 0x7fffffff, 0);
        writes(N64, WRITE_32, "2147483647.25", 0x7fffffff, LOSS);
        writes(N64, WRITE_32, "-2147483648", 0x80000000L, 0);
        writes(N64, WRITE_32_POP, "-2147483648.5", 0x80000000L, LOSS);
        writes(N64, WRITE_64_POP, "403d:fffffffffffffffe", Long.MAX_VALUE, 0);
        writes(N64 | CHOP, WRITE_64_POP, "403d:0-1", Long.MAX_VALUE, LOSS);
        writes(N64, WRITE_64_POP, "-2^63", Long.MIN_VALUE, 0);
        writes(N64, WRITE_64_POP, "-403d:0-1", Long.MIN_VALUE, LOSS);
        writes(N64 | UP, WRITE_64_POP, "-403d:0-1", Long.MIN_VALUE + 1, LOSS);
        writes(N64, WRITE_64_POP, "403e:0+1", 1, 0);
        for (int i = 0; i < 4; i++) {
            writes(N64 | ROUNDINGS[i], WRITE_16, "2.5", new long[] {2, 2, 3, 2}[i], LOSS);
            writes(N64 | ROUNDINGS[i], WRITE_32, "1.5", new long[] {2, 1, 2, 1}[i], LOSS);
            writes(N64 | ROUNDINGS[i], WRITE_64_POP, "-1.5", new long[] {-2, -2, -1, -1}[i], LOSS);
            writes(N64 | ROUNDINGS[i], WRITE_64_POP, "-7", -7, 0);
        }
        sentence("Otherwise (too great, infinite, no number) INVALID; masked: the least number of the format.");
        wholeTooGreat(WRITE_16, 0x8000, "32768", "-32769", "65536", "-65536");
        wholeTooGreat(WRITE_16_POP, 0x8000, "32767.5", "-32769.5", "2^16", "2^63");
        wholeTooGreat(WRITE_32, 0x80000000L, "2147483648", "-2147483649", "4294967296", "2147483647.5");
        wholeTooGreat(WRITE_32_POP, 0x80000000L, "2^32", "2^63", "-2^64", GREATEST);
        wholeTooGreat(WRITE_64_POP, Long.MIN_VALUE, "2^63", "403d:0-1", "-403e:8+1", "2^64");
        wholeTooGreat(WRITE_64_POP, Long.MIN_VALUE, "-2^64", "-403e:0-1", "7ffe:0+1", GREATEST);
        writes(N64 | UP, WRITE_16, "32767.25", 0x8000, INVALID);
        writes(N64 | DOWN, WRITE_16, "-32768.25", 0x8000, INVALID);
    }

    private static void wholeTooGreat(int code, long least, String... numbers) {
        for (String one : numbers) {
            writes(N64, code, one, least, INVALID);
            writes(N64 & ~INVALID, code, one, NOT_WRITTEN, INVALID);
        }
        for (String one : new String[] {"inf", "-7fff:0", "7fff:0+1", "-7fff:c", "7fff:0-1"}) {
            writes(N64 | VIEW, code, one, least, INVALID);
            writes(N64 & ~INVALID, code, one, NOT_WRITTEN, INVALID);
        }
    }

    private static void shortAndLongSpecial() {
        sentence("SHORT and LONG: infinite, nothing: with its sign.");
        int c = N64 & ~63;
        writes(c, WRITE_SHORT, "inf", 0x7f800000, 0);
        writes(c, WRITE_SHORT_POP, "-7fff:0", 0xff800000L, 0);
        writes(c, WRITE_LONG, "7fff:0", 0x7ff0000000000000L, 0);
        writes(c, WRITE_LONG_POP, "-inf", 0xfff0000000000000L, 0);
        writes(c, WRITE_SHORT, "0", 0, 0);
        writes(c, WRITE_SHORT, "-0", 0x80000000L, 0);
        writes(c, WRITE_LONG, "-0", Long.MIN_VALUE, 0);
        writes(c, WRITE_LONG, "0", 0, 0);
        sentence("A real is NOTHING when its size is 0 (also an unnormal one).");
        writes(c, WRITE_SHORT, "7ffe:0", 0, 0);
        writes(c, WRITE_SHORT, "-0001:0", 0x80000000L, 0);
        writes(c, WRITE_LONG, "-7ffe:0", Long.MIN_VALUE, 0);
        writes(c, WRITE_DECIMALS_POP, "-7ffe:0", 0, 0x8000, 0);
        sentence("No number: INVALID, and masked the sign, all ones, and the upper bits of f without its highest one");
        writes(N64, WRITE_SHORT, "7fff:c", 0x7fc00000, INVALID);
        writes(N64, WRITE_SHORT, "-7fff:4", 0xffc00000L, INVALID);
        writes(N64, WRITE_SHORT, "7fff:0-1", 0x7fffffff, INVALID);
        writes(N64, WRITE_SHORT, "-7fff:000001", 0xff800001L, INVALID);
        writes(N64, WRITE_SHORT_POP, "7fff:a000028", 0x7fa00002L, INVALID);
        writes(N64, WRITE_LONG, "-7fff:c", 0xfff8000000000000L, INVALID);
        writes(N64, WRITE_LONG, "7fff:0-1", 0x7fffffffffffffffL, INVALID);
        writes(N64, WRITE_LONG, "7fff:00000000000008", 0x7ff0000000000001L, INVALID);
        sentence("(1 if these are all 0)");
        writes(N64, WRITE_SHORT, "7fff:0+1", 0x7f800001, INVALID);
        writes(N64, WRITE_SHORT, "-7fff:800000ffffffffff", 0xff800001L, INVALID);
        writes(N64, WRITE_LONG, "7fff:8+1", 0x7ff0000000000001L, INVALID);
        writes(N64, WRITE_LONG, "-7fff:00000000000007ff", 0xfff0000000000001L, INVALID);
        sentence("An unnormal that is not nothing: INVALID, masked: the sign -, all ones, 2^22 (2^51).");
        for (String one : new String[] {"0001:0+1", "-0001:0+1", "7ffe:7fffffffffffffff", "4000:4", "-3fff:4"}) {
            writes(N64, WRITE_SHORT, one, 0xffc00000L, INVALID);
            writes(N64, WRITE_LONG, one, 0xfff8000000000000L, INVALID);
            writes(N64 & ~INVALID, WRITE_SHORT_POP, one, NOT_WRITTEN, INVALID);
            writes(N64 & ~INVALID, WRITE_LONG_POP, one, NOT_WRITTEN, INVALID);
        }
    }

    private static void tooSmallWritten() {
        sentence("If x < 2^(2 - E): with UNDER masked x is rounded to the unit 2^(3 - E - n): if that is not x, UNDER and LOSS"
            + " are told");
        writes(N64, WRITE_SHORT, "2^-127", 0x00400000, 0);
        writes(N64, WRITE_SHORT, "2^-149", 1, 0);
        writes(N64, WRITE_SHORT, "-2^-149", 0x80000001L, 0);
        writes(N64, WRITE_SHORT, "2^-150", 0, UNDER | LOSS);
        writes(N64, WRITE_SHORT, "3f69:8+1", 1, UNDER | LOSS);
        writes(N64, WRITE_SHORT, "3f6a:c", 2, UNDER | LOSS);
        writes(N64, WRITE_SHORT, "3f6b:a", 2, UNDER | LOSS);
        writes(N64, WRITE_SHORT, "2^-151", 0, UNDER | LOSS);
        writes(N64, WRITE_SHORT, "3f80:0-1", 0x00800000, UNDER | LOSS);
        writes(N64 | CHOP, WRITE_SHORT, "3f80:0-1", 0x007fffff, UNDER | LOSS);
        writes(N64, WRITE_SHORT, "3f80:fffffe", 0x007fffff, 0);
        writes(N64 | UP, WRITE_SHORT, "2^-16382", 1, UNDER | LOSS);
        writes(N64 | UP, WRITE_SHORT, "-2^-16382", 0x80000000L, UNDER | LOSS);
        writes(N64 | DOWN, WRITE_SHORT, "-2^-16382", 0x80000001L, UNDER | LOSS);
        writes(N64 | DOWN, WRITE_SHORT, "2^-16382", 0, UNDER | LOSS);
        writes(N64, WRITE_LONG, "2^-1023", 0x0008000000000000L, 0);
        writes(N64, WRITE_LONG, "2^-1074", 1, 0);
        writes(N64, WRITE_LONG, "2^-1075", 0, UNDER | LOSS);
        writes(N64, WRITE_LONG, "3bcc:8+1", 1, UNDER | LOSS);
        writes(N64, WRITE_LONG, "3bcd:c", 2, UNDER | LOSS);
        writes(N64, WRITE_LONG, "3c00:0-1", 0x0010000000000000L, UNDER | LOSS);
        writes(N64 | CHOP, WRITE_LONG, "-3c00:0-1", 0x800fffffffffffffL, UNDER | LOSS);
        writes(N64 | UP, WRITE_LONG, "2^-16382", 1, UNDER | LOSS);
        sentence("not masked: UNDER is told and nothing is written");
        for (String one : new String[] {"2^-127", "3f80:0-1", "2^-149", "-2^-150", "2^-16382", LEAST}) {
            writes(N64 & ~UNDER, WRITE_SHORT, one, NOT_WRITTEN, UNDER);
            writes(N64 & ~UNDER, WRITE_SHORT_POP, one, NOT_WRITTEN, UNDER);
        }
        for (String one : new String[] {"2^-1023", "3c00:0-1", "2^-1074", "-2^-1075", "2^-16382", LEAST}) {
            writes(N64 & ~UNDER, WRITE_LONG, one, NOT_WRITTEN, UNDER);
            writes(N64 & ~UNDER, WRITE_LONG_POP, one, NOT_WRITTEN, UNDER);
        }
        writes(N64 & ~UNDER, WRITE_SHORT_POP, "2^-126", 0x00800000, 0);
        writes(N64 & ~UNDER, WRITE_LONG_POP, "2^-1022", 0x0010000000000000L, 0);
        sentence("(A denormal register tells nothing of its own.)");
        writes(N64 & ~DENORMAL, WRITE_SHORT, LEAST, 0, UNDER | LOSS);
        writes(N64 & ~DENORMAL | UP, WRITE_LONG_POP, "0000:0-1", 1, UNDER | LOSS);
        writes(N64 & ~DENORMAL, WRITE_32_POP, LEAST, 0, LOSS);
        writes(N64 & ~DENORMAL, WRITE_DECIMALS_POP, LEAST, 0, 0, LOSS);
        writes(N64 & ~DENORMAL, WRITE_PATTERN_POP, LEAST, 1, 0, 0);
    }

    private static void tooGreatWritten() {
        sentence("Otherwise, if y >= 2^E: OVER is told; masked: LOSS, too, and it is infinite when the rounding is to the"
            + " nearest or goes away from 0 (up without, down with the sign -)");
        writes(N64, WRITE_SHORT, "407e:ffffff", 0x7f7fffff, 0);
        writes(N64, WRITE_SHORT, "407e:ffffff8", 0x7f800000, OVER | LOSS);
        writes(N64, WRITE_SHORT, "407e:ffffff8-1", 0x7f7fffff, LOSS);
        writes(N64, WRITE_SHORT, "2^128", 0x7f800000, OVER | LOSS);
        writes(N64, WRITE_SHORT, "-" + GREATEST, 0xff800000L, OVER | LOSS);
        writes(N64 | UP, WRITE_SHORT, "407e:ffffff+1", 0x7f800000, OVER | LOSS);
        writes(N64 | DOWN, WRITE_SHORT, "-407e:ffffff+1", 0xff800000L, OVER | LOSS);
        writes(N64, WRITE_LONG, "43fe:fffffffffffff8", 0x7fefffffffffffffL, 0);
        writes(N64, WRITE_LONG, "43fe:fffffffffffffc", 0x7ff0000000000000L, OVER | LOSS);
        writes(N64, WRITE_LONG, "43fe:fffffffffffffc-1", 0x7fefffffffffffffL, LOSS);
        writes(N64, WRITE_LONG, "2^1024", 0x7ff0000000000000L, OVER | LOSS);
        writes(N64, WRITE_LONG, "43ff:0-1", 0x7ff0000000000000L, OVER | LOSS);
        writes(N64, WRITE_SHORT, "407f:0-1", 0x7f800000, OVER | LOSS);
        writes(N64 | DOWN, WRITE_LONG, "-2^1024", 0xfff0000000000000L, OVER | LOSS);
        writes(N64 | UP, WRITE_LONG, "2^1024", 0x7ff0000000000000L, OVER | LOSS);
        sentence("or else the greatest one");
        writes(N64 | CHOP, WRITE_SHORT, "2^128", 0x7f7fffff, OVER | LOSS);
        writes(N64 | DOWN, WRITE_SHORT, GREATEST, 0x7f7fffff, OVER | LOSS);
        writes(N64 | UP, WRITE_SHORT, "-2^128", 0xff7fffffL, OVER | LOSS);
        writes(N64 | CHOP, WRITE_LONG, "-2^1024", 0xffefffffffffffffL, OVER | LOSS);
        writes(N64 | DOWN, WRITE_LONG, "2^1024", 0x7fefffffffffffffL, OVER | LOSS);
        writes(N64 | CHOP, WRITE_SHORT, "407e:0-1", 0x7f7fffff, LOSS);
        writes(N64 | DOWN, WRITE_LONG, "43fe:0-1", 0x7fefffffffffffffL, LOSS);
        writes(N64 | UP, WRITE_LONG, "-43fe:0-1", 0xffefffffffffffffL, LOSS);
        sentence("not masked: nothing is written");
        for (String one : new String[] {"407e:ffffff8", "2^128", "-" + GREATEST}) {
            writes(N64 & ~OVER, WRITE_SHORT, one, NOT_WRITTEN, OVER);
            writes(N64 & ~OVER, WRITE_SHORT_POP, one, NOT_WRITTEN, OVER);
        }
        for (String one : new String[] {"43fe:fffffffffffffc", "-2^1024", GREATEST}) {
            writes(N64 & ~OVER, WRITE_LONG, one, NOT_WRITTEN, OVER);
            writes(N64 & ~OVER, WRITE_LONG_POP, one, NOT_WRITTEN, OVER);
        }
        writes(N64 & ~OVER, WRITE_SHORT_POP, "407e:ffffff8-1", 0x7f7fffff, LOSS);
        sentence("Otherwise y, and LOSS if it is not x.");
        writes(N64 & ~63, WRITE_SHORT, "2^-126", 0x00800000, 0);
        writes(N64 & ~63, WRITE_SHORT, "3fff:8000008", 0x3f800000, LOSS);
        writes(N64 & ~63, WRITE_SHORT, "3fff:8000018", 0x3f800002, LOSS);
        writes(N64 & ~63, WRITE_SHORT, "-3fff:ffffff8", 0xc0000000L, LOSS);
        writes(N64 & ~63, WRITE_LONG, "3fff:80000000000004", 0x3ff0000000000000L, LOSS);
        writes(N64 & ~63, WRITE_LONG, "3fff:8000000000000c", 0x3ff0000000000002L, LOSS);
        writes(N24 & ~63, WRITE_LONG, "3fff:80000000000008", 0x3ff0000000000001L, 0);
        writes(N64 & ~63 | UP, WRITE_LONG, "3fff:8+1", 0x3ff0000000000001L, LOSS);
        writes(N64 & ~63 | UP, WRITE_LONG, "-3fff:8+1", 0xbff0000000000000L, LOSS);
        writes(N64 & ~63 | DOWN, WRITE_LONG, "-3fff:8+1", 0xbff0000000000001L, LOSS);
    }

    private static void decimalsWritten() {
        sentence("DECIMALS: x is rounded to the nearest whole number, halves towards 0, whatever the control says");
        for (int rounding : ROUNDINGS) {
            int c = N24 & ~63 | rounding;
            writes(c, WRITE_DECIMALS_POP, "0.5", 0, 0, LOSS);
            writes(c, WRITE_DECIMALS_POP, "1.5", 1, 0, LOSS);
            writes(c, WRITE_DECIMALS_POP, "2.5", 2, 0, LOSS);
            writes(c, WRITE_DECIMALS_POP, "-1.5", 1, 0x8000, LOSS);
            writes(c, WRITE_DECIMALS_POP, "3fff:c+1", 2, 0, LOSS);
            writes(c, WRITE_DECIMALS_POP, "-3fff:c+1", 2, 0x8000, LOSS);
            writes(c, WRITE_DECIMALS_POP, "3fff:c-1", 1, 0, LOSS);
            writes(c, WRITE_DECIMALS_POP, "3ffe:8+1", 1, 0, LOSS);
            writes(c, WRITE_DECIMALS_POP, "3ffe:0-1", 1, 0, LOSS);
            writes(c, WRITE_DECIMALS_POP, "4000:4", 1, 0, 0);
        }
        sentence("if it is below 10^18 its digits and the sign are written, and LOSS told if it is not x");
        writes(N64, WRITE_DECIMALS_POP, "0", 0, 0, 0);
        writes(N64, WRITE_DECIMALS_POP, "-0", 0, 0x8000, 0);
        writes(N64, WRITE_DECIMALS_POP, "-0.25", 0, 0x8000, LOSS);
        writes(N64, WRITE_DECIMALS_POP, "123456789012345678", 0x3456789012345678L, 0x12, 0);
        writes(N64, WRITE_DECIMALS_POP, "-999999999999999999", 0x9999999999999999L, 0x8099, 0);
        writes(N64, WRITE_DECIMALS_POP, "403a:de0b6b3a763ffff8", 0x9999999999999999L, 0x99, LOSS);
        sentence("Otherwise INVALID; masked: bytes 0 to 6 are 0, 7 is 192, 8 and 9 are 255.");
        for (String one : new String[] {"1000000000000000000", "-1000000000000000000", "403a:de0b6b3a763ffff9", "2^63",
            "403e:0-1", "2^64", GREATEST, "inf", "-7fff:0", "7fff:0+1", "-7fff:c"}) {
            writes(N64, WRITE_DECIMALS_POP, one, 0xc000000000000000L, 0xffff, INVALID);
            writes(N64 & ~INVALID, WRITE_DECIMALS_POP, one, NOT_WRITTEN, INVALID);
        }
    }

    private static void othersWritten() {
        sentence("Format 6: copied.");
        for (String real : new String[] {"0", "-0", LEAST, "-0001:0", "7ffe:1", "-7fff:0", "7fff:0+1", "-7fff:0-1"}) {
            long[] want = real(real);
            writes(N64 & ~63, WRITE_PATTERN_POP, real, want[1], (int) want[0], 0);
        }
        sentence("WRITING a register in a format, to memory's first bytes; the others stay.");
        int[] counts = {4, 4, 4, 4, 8, 8, 2, 2, 10, 8};
        for (int i = 0; i < ALL_WRITES.length; i++) {
            given(N64, "1");
            fill(0x77);
            run(ALL_WRITES[i]);
            for (int at = 0; at < 94; at++) {
                due("byte " + at + " is written", x.byteAt(at) == 0x77 ? 0 : 1, at < counts[i] ? 1 : 0);
            }
        }
        sentence("When INVALID is not masked nothing is written.");
        for (int code : ALL_WRITES) {
            writes(N64 & ~INVALID, code, "7fff:c", NOT_WRITTEN, INVALID);
            given(N64 & ~INVALID);
            ends(code, INVALID);
        }
        given(N64 & ~INVALID);
        ends(WRITE_PATTERN_POP, INVALID);
        sentence("What is told is the answer.");
        given(N64, "2.5");
        run(WRITE_16);
        told(LOSS);
        run(WRITE_PATTERN_POP);
        told(0);
        due("status", x.word(1), LOSS);
    }

    public static void main(String[] args) {
        memory();
        wholeNumbers();
        shortAndLong();
        denormalReading();
        decimalsRead();
        patternsRead();
        wholeWritten();
        shortAndLongSpecial();
        tooSmallWritten();
        tooGreatWritten();
        decimalsWritten();
        othersWritten();
        finish("formats");
    }
}
