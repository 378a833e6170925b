/** The boundaries that the document names under THE STACK, STATUS, TAGS, CODES, POINTERS and THE ENVIRONMENT. */
public final class BoundariesOfCodesTest extends Bench {
    private static final int[] PUSHES_OF_MEMORY = {PUSH_SHORT, PUSH_32, PUSH_PATTERN, PUSH_LONG, PUSH_16, PUSH_DECIMALS, PUSH_64};
    private static final int[] WRITES = {WRITE_SHORT, WRITE_SHORT_POP, WRITE_32, WRITE_32_POP, WRITE_LONG, WRITE_LONG_POP,
        WRITE_16, WRITE_16_POP, WRITE_DECIMALS_POP, WRITE_64_POP, WRITE_PATTERN_POP};

    private static boolean pops(int code) {
        return code == WRITE_DECIMALS_POP || (code & 8) != 0;
    }

    // ---- THE STACK

    private static void registers() {
        sentence("ST(k) is register TOP + k (less 8 from 8 on)");
        for (int top = 0; top < 8; top++) {
            given(N64);
            fill(0);
            put(0, 2, N64);
            put(2, 2, top << 11);
            for (int k = 0; k < 8; k++) {
                putReal(14 + 10 * k, Integer.toString(k + 1));
            }
            run(RESTORE);
            for (int k = 0; k < 8; k++) {
                holds(k, Integer.toString(k + 1));
            }
            run(TOP_MORE);
            for (int k = 0; k < 8; k++) {
                holds(k, Integer.toString((k + 1) % 8 + 1));
            }
            run(TOP_LESS, 0x0c7);
            holds(0, "9");
            run(0x4c7);
            holds(7, "17");
        }
    }

    private static void pushed() {
        sentence("TOP becomes one less (7 below 0), ST(0) that, and not EMPTY");
        given(N64);
        for (int i = 1; i <= 8; i++) {
            run(PUSH_ONE);
            told(0);
            due("TOP", top(), 8 - i & 7);
            due("tags", x.word(2), 0xffff >> 2 * i);
        }
        sentence("PUSHED: when ST(7) is not EMPTY, INVALID is told (before anything is read), and, masked, INDEFINITE is pushed");
        for (int code : PUSHES_OF_MEMORY) {
            pushedOnFull(code);
        }
        for (int i = 0; i < 8; i++) {
            pushedOnFull(PUSH_REGISTER + i);
        }
        for (int i = 0; i < 7; i++) {
            pushedOnFull(PUSH_ONE + i);
        }
        given(N64, "1", "2");
        run(TOP_MORE);
        run(PUSH_PI);
        holds(0, INDEFINITE);
        told(INVALID);
        givenFull(N64 & ~INVALID, "1");
        run(FREE + 7, PUSH_PI);
        holds(0, "4000:c90fdaa22168c235");
        told(0);
        sentence("INVALID is told (before anything is read)");
        for (int code : new int[] {PUSH_SHORT, PUSH_LONG}) {
            givenFull(N64 & ~INVALID, "1");
            put(0, 8, 1);
            ends(code, INVALID);
            givenFull(N64 & ~INVALID & ~DENORMAL, "1");
            put(0, 8, 1);
            ends(code, INVALID);
            givenFull(N64 & ~DENORMAL, "1");
            put(0, 8, 1);
            run(code);
            holds(0, INDEFINITE);
            told(INVALID);
        }
    }

    private static void pushedOnFull(int code) {
        givenFull(N64, "1");
        put(0, 8, 0);
        put(8, 2, 0);
        run(code);
        holds(0, INDEFINITE);
        for (int k = 1; k < 8; k++) {
            holds(k, Integer.toString(k));
        }
        told(INVALID);
        due("TOP", top(), 7);
        givenFull(N64 & ~INVALID, "1");
        put(0, 8, 0);
        put(8, 2, 0);
        ends(code, INVALID);
    }

    private static void popped() {
        sentence("POPPED: ST(0) becomes EMPTY, TOP one more.");
        given(N64, "1", "2");
        due("TOP", top(), 6);
        run(WRITE_16_POP);
        due("TOP", top(), 7);
        due("tags", x.word(2), 0x3fff);
        holds(0, "2");
        run(WRITE_16_POP);
        due("TOP, 0 after 7", top(), 0);
        due("tags", x.word(2), 0xffff);
        due("what is in it stays", x.part(7, 0), 0x4000);
    }

    private static void needed() {
        sentence("NEEDED: when one that is needed is EMPTY, INVALID is told, and, masked, it counts as INDEFINITE.");
        for (int code : new int[] {ADD, TIMES, LESS, LESS_TURNED, BY, BY_TURNED, SCALE, REMAINDER}) {
            neededOf(code, false, true, 0, INDEFINITE);
            neededOf(code, true, false, 0, INDEFINITE);
            neededOf(code, false, false, 0, INDEFINITE);
        }
        for (int r : new int[] {0, 1, 4, 5, 6, 7}) {
            neededOf(0x4c1 | r << 3, false, true, 1, INDEFINITE);
            neededOf(0x4c1 | r << 3, true, false, 1, INDEFINITE);
            neededOf(0x6c1 | r << 3, false, true, 0, INDEFINITE);
            neededOf(0x6c1 | r << 3, true, false, 0, INDEFINITE);
        }
        for (int code : new int[] {ROOT, WHOLE, PUSH_REGISTER, MOVE, MOVE + 1, EXTRACT, NO_SIGN, TURN_SIGN}) {
            String want = code == NO_SIGN || code == TURN_SIGN ? "7fff:c" : INDEFINITE;
            neededOf(code, false, true, 0, code == MOVE + 1 ? null : want);
        }
        neededOf(MOVE_POP + 1, false, true, 0, INDEFINITE);
        neededOf(MOVE_POP, false, true, 0, "3");
        neededOf(PUSH_REGISTER + 1, true, false, 0, INDEFINITE);
        neededOf(CHANGE_PLACES + 1, true, false, 0, INDEFINITE);
        neededOf(CHANGE_PLACES + 1, true, false, 1, "2");
        neededOf(CHANGE_PLACES + 1, false, true, 0, "3");
        neededOf(CHANGE_PLACES + 1, false, true, 1, INDEFINITE);
        for (int code : new int[] {COMPARE, COMPARE_POP, COMPARE_POP_TWICE}) {
            neededOf(code, true, false, 0, null);
            neededOf(code, false, true, 0, null);
            due("no order", conditions(), C0 | C2 | C3);
        }
        neededOf(TEST, false, true, 0, null);
        for (int op = 0; op < 8; op += 2) {
            for (int r = 0; r < 8; r++) {
                neededOf(op << 8 | r << 3, false, true, 0, r == 3 ? "3" : r == 2 ? null : INDEFINITE);
            }
        }
        long[] written = {0xffc00000L, 0x80000000L, 0xfff8000000000000L, 0x8000, 0xc000000000000000L, Long.MIN_VALUE, 3L << 62};
        int at = 0;
        for (int code : WRITES) {
            neededOf(code, false, true, 0, pops(code) ? "3" : null);
            due("written", memoryBits(0, Math.min(8, -x.needs(code >> 8, code & 255))), written[at]);
            at += pops(code) ? 1 : 0;
        }
    }

    /** A code on 2 and 3, either of which may be EMPTY (then it is 5 inside): INVALID, and what ST(k) is then. */
    private static void neededOf(int code, boolean hasFirst, boolean hasSecond, int k, String want) {
        for (int masked = 0; masked < 2; masked++) {
            given(N64 & ~INVALID | masked, hasFirst ? "2" : "5", hasSecond ? "3" : "5");
            run(hasFirst ? NOTHING : FREE, hasSecond ? NOTHING : FREE + 1);
            put(0, 8, 0);
            if (masked == 0) {
                ends(code, INVALID);
            } else {
                run(code);
                told(INVALID);
                if (want != null) {
                    holds(k, want);
                }
            }
        }
    }

    private static void notNeeded() {
        sentence("EXAMINED (not needed)");
        for (String inside : new String[] {"1", "-1", "-7fff:c", "0"}) {
            given(N64 & ~63, inside);
            run(FREE);
            setConditions(C1 | C2);
            run(EXAMINE);
            told(0);
            due("EMPTY", conditions(), C0 | C3);
        }
        sentence("An answer's register is not EMPTY.");
        given(N64, "1");
        run(MOVE + 5);
        due("ST(5) EMPTY", isEmpty(5) ? 1 : 0, 0);
        holds(5, "1");
        given(N64);
        run(WHOLE);
        due("ST(0) EMPTY", isEmpty(0) ? 1 : 0, 0);
        given(N64, "1");
        run(0x4c3);
        holds(3, INDEFINITE);
        given(N64);
        run(CHANGE_PLACES + 4);
        holds(0, INDEFINITE);
        holds(4, INDEFINITE);
        due("the others are EMPTY", x.word(2), 0xfcfc | 0x202);
    }

    private static void ending() {
        sentence("the code ENDS at once (what would come behind, reading too, is not looked at, and tells nothing): nothing is"
            + " written, pushed, popped, kept; what is told by then is");
        given(N64 & ~INVALID);
        put(0, 4, 1);
        ends(0x000, INVALID);
        given(N64 & ~DENORMAL);
        put(0, 4, 1);
        ends(0x000, INVALID | DENORMAL);
        for (int r = 0; r < 8; r++) {
            given(N64 & ~DENORMAL, "7fff:c");
            put(0, 8, 1);
            ends(0x400 | r << 3, DENORMAL);
            given(N64 & ~INVALID, "7fff:c");
            put(0, 8, 1);
            ends(0x400 | r << 3, DENORMAL | INVALID);
        }
        given(N64 & ~DIVISION, "0");
        put(0, 8, 1);
        ends(0x438, DENORMAL | DIVISION);
        given(N64 & ~INVALID & ~OVER & ~UNDER, "inf", "inf");
        setConditions(CONDITIONS);
        ends(0x6c1, INVALID);
        given(N64 & ~INVALID, "inf", "1");
        setConditions(CONDITIONS);
        ends(COMPARE_POP_TWICE, INVALID);
        ends(REMAINDER, INVALID);
        sentence("or in writing OVER or UNDER is");
        gives(N64 & ~OVER, 0x6c1, "2^16383", "2^16383", "2^-8192", OVER);
        gives(N64 & ~UNDER, 0x6c9, "2^-16382", "0.5", "2^8193", UNDER);
        endsWith(N64 & ~OVER, WRITE_SHORT_POP, "2^128", null, OVER);
        endsWith(N64 & ~UNDER, WRITE_LONG_POP, "2^-1023", null, UNDER);
        sentence("what is told by then is");
        given(N64 & ~DENORMAL & ~OVER & ~UNDER, "2^128");
        ends(WRITE_SHORT, OVER);
        putReal(0, "2^-16382");
        run(PUSH_PATTERN);
        ends(WRITE_SHORT, UNDER);
        put(0, 8, 1);
        ends(PUSH_LONG, DENORMAL);
        due("all of it", x.word(1) & 255, 128 | OVER | UNDER | DENORMAL);
    }

    // ---- STATUS and TAGS

    private static void status() {
        sentence("STATUS: bits 0 to 5 what was told since they were cleared");
        given(N64, "1", "0");
        run(BY);
        due("DIVISION", x.word(1) & 255, DIVISION);
        push("2.5");
        run(WHOLE);
        due("LOSS, too", x.word(1) & 255, DIVISION | LOSS);
        told(LOSS);
        run(NOTHING);
        due("they stay", x.word(1) & 255, DIVISION | LOSS);
        told(0);
        setConditions(CONDITIONS);
        int before = x.word(1);
        run(CLEAR);
        due("cleared, the others stay", x.word(1), before & ~63);
        run(WHOLE, EXTRACT);
        due("nothing new", x.word(1) & 255, 0);
        sentence("7 whether one of them is not masked, as masks are now");
        for (int bit = 0; bit < 6; bit++) {
            given(N64);
            run(WRITE_ENVIRONMENT);
            put(2, 2, 1 << bit);
            run(READ_ENVIRONMENT);
            due("masked", x.word(1), 1 << bit);
            control(N64 & ~(1 << bit));
            due("not masked", x.word(1), 128 | 1 << bit);
            due("a REQUEST", x.word(3), 1);
            control(N64 & ~63 | 1 << bit);
            due("masked again", x.word(1), 1 << bit);
            due("none", x.word(3), 0);
        }
        given(N64);
        run(WRITE_ENVIRONMENT);
        put(2, 2, 0x80);
        run(READ_ENVIRONMENT);
        due("it is not read", x.word(1), 0);
        sentence("There is a REQUEST when bit 7 is set and the control's bit 7 is not.");
        given(N64 & ~INVALID);
        due("nothing told", x.word(3), 0);
        ends(TURN_SIGN, INVALID);
        due("told", x.word(3), 1);
        run(NO_REQUESTS);
        due("not wanted", x.word(3), 0);
        due("control", x.word(0), N64 & ~INVALID | 128);
        due("status", x.word(1), 128 | INVALID);
        run(REQUESTS);
        due("wanted", x.word(3), 1);
        due("control", x.word(0), N64 & ~INVALID);
        run(CLEAR);
        due("cleared", x.word(3), 0);
        due("status", x.word(1), 0);
        sentence("TOP bits 11 to 13; others 0");
        given(N64);
        for (int i = 7; i >= 0; i--) {
            run(TOP_LESS);
            due("status", x.word(1), i << 11);
        }
        put(0, 2, N64);
        put(2, 2, 0x8040);
        run(READ_ENVIRONMENT);
        due("bits 6 and 15", x.word(1), 0);
    }

    private static void tags() {
        sentence("TAGS: two bits for each register, the lowest ones for 0: 3 EMPTY; 1 its size is 0; 0 NORMAL; 2 others.");
        String[] reals = {"1", "0", LEAST, "inf", "7fff:c", "4000:1", "-4000:0", "-0"};
        int[] tags = {0, 1, 2, 2, 2, 2, 1, 1};
        for (int r = 0; r < 8; r++) {
            for (int i = 0; i < 8; i++) {
                given(N64 & ~63);
                for (int j = 0; j < 8 - r; j++) {
                    push(reals[i]);
                }
                for (int j = 7; j > r; j--) {
                    run(FREE + (j - r));
                }
                due(reals[i] + " in register " + r, x.word(2), 0xffff & ~(3 << 2 * r) | tags[i] << 2 * r);
            }
        }
    }

    // ---- CODES

    private static void modes() {
        sentence("Modes 0 to 2: with an operand in MEMORY; mode 3: with registers.");
        for (int op = 0; op < 8; op++) {
            for (int r = 0; r < 8; r++) {
                int[] first = afterCode(op << 8 | r << 3);
                for (int mode = 0; mode < 3; mode++) {
                    for (int i = 0; i < 8; i++) {
                        afterCode(op << 8 | mode << 6 | r << 3 | i);
                        unchanged("op " + op + " r " + r + " mode " + mode, changed(first, mode << 6 | i));
                    }
                }
            }
        }
        given(N64, "5", "3");
        put(0, 4, 0x40000000);
        run(0x0c1);
        holds(0, "8");
        run(0x001);
        holds(0, "10");
    }

    /** All that is seen after a code on 2, with 10 behind it and operands that every format likes. */
    private static int[] afterCode(int code) {
        given(N64, "2", "10");
        fill(0x41);
        tryCode(code);
        return seen();
    }

    /** The same, but that the code's byte has these bits, where it is kept. */
    private static int[] changed(int[] seen, int bits) {
        int[] all = seen.clone();
        if (x.word(4) != all[4]) {
            all[4] |= bits;
        }
        return all;
    }

    private static void memoryCodes() {
        int c = N64 & ~63;
        sentence("0 a SHORT is read and pushed; 2 ST(0) is written as SHORT, 3 and popped");
        reads(c, 0x100, 4, 0x40400000, "3", 0);
        writes(c, 0x110, "3", 0x40400000, 0);
        writes(c, 0x118, "3", 0x40400000, 0);
        sentence("4 the ENVIRONMENT is read, 5 the control; 6 the ENVIRONMENT is written, 7 the control");
        given(c, "3");
        run(0x130);
        due("tags", memoryBits(4, 2), 0x3fff);
        put(4, 2, 0xffff);
        run(0x120);
        due("all EMPTY", x.word(2), 0xffff);
        put(0, 2, 0x123);
        run(0x128, NO_REQUESTS, 0x138);
        due("control", memoryBits(0, 2), 0x1a3);
        sentence("Op 3: 0 a WHOLE of 32 bits pushed; 2 written, 3 and popped; 5 a pattern (format 6) pushed; 7 written and popped.");
        reads(c, 0x300, 4, 0xfffffffdL, "-3", 0);
        writes(c, 0x310, "-3", 0xfffffffdL, 0);
        writes(c, 0x318, "-3", 0xfffffffdL, 0);
        given(c);
        putReal(0, "-7fff:0+1");
        run(0x328);
        holds(0, "-7fff:0+1");
        writes(c, 0x338, "-7fff:0+1", 1, 0xffff, 0);
        sentence("Op 5: 0 a LONG pushed; 2 written, 3 and popped; 4 RESTORE; 6 SAVE; 7 the status is written.");
        reads(c, 0x500, 8, 0xc008000000000000L, "-3", 0);
        writes(c, 0x510, "-3", 0xc008000000000000L, 0);
        writes(c, 0x518, "-3", 0xc008000000000000L, 0);
        given(c, "3");
        ends(0x0c1, INVALID);
        fill(0x5a);
        run(0x538);
        due("status", memoryBits(0, 8), 0x5a5a5a5a5a5a0000L | 7 << 11 | 128 | INVALID);
        run(0x530);
        isInitial();
        run(0x520);
        holds(0, "3");
        sentence("Op 7: 0 a WHOLE of 16 bits pushed; 2 written, 3 and popped; 4 DECIMALS pushed; 5 a WHOLE of 64 bits pushed; 6"
            + " DECIMALS, 7 a WHOLE of 64 bits written and popped.");
        reads(c, 0x700, 2, 0xfffd, "-3", 0);
        writes(c, 0x710, "-3", 0xfffd, 0);
        writes(c, 0x718, "-3", 0xfffd, 0);
        given(c);
        put(0, 8, 0x13);
        put(8, 2, 0x8000);
        run(0x720);
        holds(0, "-13");
        reads(c, 0x728, 8, -3, "-3", 0);
        writes(c, 0x730, "-13", 0x13, 0x8000, 0);
        writes(c, 0x738, "-3", -3, 0);
    }

    /** ST(0) is 6, ST(1) and the operand 3. */
    private static void arithmetic() {
        sentence("By r: ST(0) becomes 0 ST(0) + x, 1 ST(0) times x, 4 ST(0) - x, 5 x - ST(0), 6 ST(0) / x, 7 x / ST(0); 2"
            + " ST(0) is COMPARED with x, 3 and popped.");
        String[] answers = {"9", "18", null, null, "3", "-3", "2", "0.5"};
        long[] three = {0x40400000L, 3, 0x4008000000000000L, 3};
        int[] counts = {4, 4, 8, 2};
        for (int op = 0; op < 8; op += 2) {
            for (int r = 0; r < 8; r++) {
                for (int mode = 0; mode < 3; mode++) {
                    given(N64 & ~63, "6", "7");
                    setConditions(CONDITIONS);
                    fill(0xff);
                    put(0, counts[op / 2], three[op / 2]);
                    run(op << 8 | mode << 6 | r << 3 | mode);
                    holds(0, r == 3 ? "7" : r == 2 ? "6" : answers[r]);
                    due("conditions", conditions(), r == 2 || r == 3 ? C1 : CONDITIONS);
                    due("TOP", top(), r == 3 ? 7 : 6);
                    told(0);
                }
            }
        }
        sentence("x is read as SHORT, WHOLE of 32 bits, LONG, WHOLE of 16 bits");
        String[] numbers = {"3", "196608", "3", "3"};
        long[] bits = {0x40400000L, 196608, 0x4008000000000000L, 3};
        for (int op = 0; op < 8; op += 2) {
            String number = numbers[op / 2];
            for (int r = 0; r < 8; r++) {
                given(N64 & ~63, number);
                fill(0xff);
                put(0, counts[op / 2], bits[op / 2]);
                run(op << 8 | r << 3);
                due("compared", conditions(), r == 2 || r == 3 ? C3 : 0);
                String twice = op == 2 ? "393216" : "6";
                String square = op == 2 ? "38654705664" : "9";
                if (r != 2 && r != 3) {
                    holds(0, r == 0 ? twice : r == 1 ? square : r < 6 ? "0" : "1");
                }
            }
        }
        sentence("Registers, op 0: as with memory, x being ST(i) (needed, too).");
        for (int i = 1; i < 8; i++) {
            for (int r = 0; r < 8; r++) {
                sixAndThree(i);
                run(0x0c0 | r << 3 | i);
                told(0);
                if (r == 3) {
                    holds(i - 1, "3");
                    due("popped", top(), 1);
                } else {
                    holds(0, r == 2 ? "6" : answers[r]);
                    holds(i, "3");
                    due("TOP", top(), 0);
                }
                due("conditions", conditions(), r == 2 || r == 3 ? C1 : CONDITIONS);
            }
        }
    }

    /** TOP 0, ST(0) 6, ST(i) 3, all the others EMPTY; all conditions set, nothing masked. */
    private static void sixAndThree(int i) {
        given(N64 & ~63, "6", "6", "6", "6", "6", "6", "6", "6");
        for (int k = 1; k < 8; k++) {
            run(FREE + k);
        }
        run(SAVE);
        putReal(14 + 10 * i, "3");
        put(4, 2, 0xfffc & ~(3 << 2 * i));
        run(RESTORE);
        setConditions(CONDITIONS);
    }

    private static void intoOthers() {
        sentence("Op 4 and 6: ST(i) becomes 0 ST(i) + ST(0), 1 ST(i) times ST(0), 4 ST(0) - ST(i), 5 ST(i) - ST(0), 6 ST(0) /"
            + " ST(i), 7 ST(i) / ST(0) (both needed), with op 6 popped then");
        String[] answers = {"9", "18", null, null, "3", "-3", "2", "0.5"};
        for (int i = 1; i < 8; i++) {
            for (int r = 0; r < 8; r++) {
                if (answers[r] == null) {
                    continue;
                }
                sixAndThree(i);
                run(0x4c0 | r << 3 | i);
                holds(i, answers[r]);
                holds(0, "6");
                due("TOP", top(), 0);
                sixAndThree(i);
                run(0x6c0 | r << 3 | i);
                holds(i - 1, answers[r]);
                due("popped", top(), 1);
                due("EMPTY", isEmpty(7) ? 1 : 0, 1);
                due("conditions", conditions(), CONDITIONS);
            }
        }
        String[] own = {"12", "36", null, null, "0", "0", "1", "1"};
        for (int r = 0; r < 8; r++) {
            if (own[r] != null) {
                given(N64, "6", "7");
                run(0x4c0 | r << 3);
                holds(0, own[r]);
                given(N64, "6", "7");
                run(0x6c0 | r << 3);
                holds(0, "7");
                due("EMPTY", isEmpty(7) ? 1 : 0, 1);
                due("it was kept", x.part(7, 0), real(own[r])[0]);
            }
        }
        sentence("op 6 with r 3 and i 1: ST(0) is compared with ST(1), popped twice");
        given(N64, "6", "3", "7");
        setConditions(CONDITIONS);
        run(COMPARE_POP_TWICE);
        holds(0, "7");
        due("conditions", conditions(), C1);
        due("TOP", top(), 7);
        due("tags", x.word(2), 0x3fff);
        given(N64, "3", "6");
        run(COMPARE_POP_TWICE);
        due("conditions", conditions(), C0);
        due("TOP", top(), 0);
        for (int i = 0; i < 8; i++) {
            due("i " + i, tryCode(0x6d8 | i), i == 1 ? PartnerStack.DONE : PartnerStack.NO_CODE);
        }
    }

    private static void ownCodes() {
        sentence("r 0 ST(i) (needed) is pushed");
        for (int i = 0; i < 7; i++) {
            given(N64 & ~63, "1", "2", "3", "4", "5", "6", "7");
            run(PUSH_REGISTER + i);
            holds(0, Integer.toString(i + 1));
            holds(7, "7");
        }
        gives(N64 & ~63, PUSH_REGISTER, "7fff:0+1", null, "7fff:0+1", 0);
        sentence("1 ST(0) and ST(i) (needed) change places");
        for (int i = 0; i < 8; i++) {
            givenFull(N64 & ~63, "1");
            run(CHANGE_PLACES + i);
            holds(0, Integer.toString(i + 1));
            holds(i, "1");
            told(0);
        }
        sentence("2 with i 0 nothing");
        given(N64 & ~63, "1");
        int[] before = seen();
        before[4] = NOTHING;
        run(NOTHING);
        unchanged("nothing", before);
        given(N64 & ~63);
        before = seen();
        before[4] = NOTHING;
        before[5] = CODE_PLACE;
        before[6] = OPERAND_PLACE;
        run(NOTHING);
        unchanged("nothing on an EMPTY stack", before);
        sentence("i 0 its sign turned, 1 taken away");
        for (String one : new String[] {"0", "1", LEAST, "inf", "7fff:c", "7fff:0+1", "4000:0", "4000:1"}) {
            gives(N64 & ~63, TURN_SIGN, one, null, "-" + one, 0);
            gives(N64 & ~63, TURN_SIGN, "-" + one, null, one, 0);
            gives(N64 & ~63, NO_SIGN, one, null, one, 0);
            gives(N64 & ~63, NO_SIGN, "-" + one, null, one, 0);
        }
        sentence("i 0 to 6 one, the logarithm of 10 by 2, that of e by 2, pi, the logarithm of 2 by 10, that of 2 by e, ZERO is"
            + " pushed (the NORMAL ones that are nearest)");
        String[] constants = {"1", "4000:d49a784bcd1b8afe", "3fff:b8aa3b295c17f0bc", "4000:c90fdaa22168c235",
            "3ffd:9a209a84fbcff799", "3ffe:b17217f7d1cf79ac", "0"};
        for (int i = 0; i < 7; i++) {
            for (int rounding : ROUNDINGS) {
                given(N24 & ~63 | rounding);
                run(PUSH_ONE + i);
                holds(0, constants[i]);
                told(0);
            }
        }
        sentence("6 TOP becomes one less, 7 one more");
        given(N64 & ~63);
        for (int i = 1; i <= 9; i++) {
            run(TOP_LESS);
            due("TOP", top(), 8 - i & 7);
        }
        for (int i = 0; i <= 8; i++) {
            due("TOP", top(), 7 + i & 7);
            run(TOP_MORE);
        }
        due("tags", x.word(2), 0xffff);
        givenFull(N64 & ~63, "1");
        run(TOP_MORE);
        due("none becomes EMPTY", x.word(2), 0);
        told(0);
    }

    private static void extractOnFull() {
        sentence("the power goes to ST(0), the fraction is pushed (INDEFINITE in its stead, when ST(7) is not EMPTY");
        givenFull(N64, "12");
        run(EXTRACT);
        holds(0, INDEFINITE);
        holds(1, "3");
        holds(2, "2");
        told(INVALID);
        due("TOP", top(), 7);
        givenFull(N64, "0");
        run(EXTRACT);
        holds(0, INDEFINITE);
        holds(1, "-inf");
        told(INVALID | DIVISION);
        givenFull(N64, "-inf");
        run(EXTRACT);
        holds(0, INDEFINITE);
        holds(1, "inf");
        told(INVALID);
        givenFull(N64, LEAST);
        run(EXTRACT);
        holds(0, INDEFINITE);
        holds(1, "-16445");
        told(INVALID | DENORMAL);
        givenFull(N64 & ~INVALID, "12");
        ends(EXTRACT, INVALID);
        givenFull(N64 & ~INVALID, "12");
        run(FREE + 6);
        ends(EXTRACT, INVALID);
        givenFull(N64 & ~INVALID, "12");
        run(FREE + 7, EXTRACT);
        holds(0, "1.5");
        holds(1, "3");
        told(0);
        sentence("of no number, and of an EMPTY one, the power is as told, that real)");
        givenFull(N64, "7fff:0+1");
        run(EXTRACT);
        holds(0, INDEFINITE);
        holds(1, "7fff:0+1");
        told(INVALID);
        givenFull(N64, "12");
        run(FREE, EXTRACT);
        holds(0, INDEFINITE);
        holds(1, INDEFINITE);
        told(INVALID);
        given(N64);
        run(EXTRACT);
        holds(0, INDEFINITE);
        holds(1, INDEFINITE);
        told(INVALID);
        due("TOP", top(), 7);
        sentence("(needed, before ST(7) is looked at)");
        given(N64 & ~INVALID);
        ends(EXTRACT, INVALID);
        givenFull(N64 & ~INVALID, LEAST);
        ends(EXTRACT, INVALID);
        givenFull(N64 & ~INVALID, "0");
        ends(EXTRACT, INVALID);
    }

    private static void controlCodes() {
        sentence("5 the control");
        given(N64);
        fill(0xff);
        put(0, 2, 0x1234);
        run(READ_CONTROL);
        due("two bytes of it", x.word(0), 0x1234);
        sentence("i 0 the control's bit 7 is not set, 1 set; 2 bits 0 to 5 of the status are cleared; 3 INITIAL");
        for (int control : new int[] {0, 0xffff, 0x80, 0xff7f, N64}) {
            given(control);
            run(REQUESTS);
            due("not set", x.word(0), control & 0xff7f);
            run(REQUESTS);
            due("not set", x.word(0), control & 0xff7f);
            run(NO_REQUESTS);
            due("set", x.word(0), control & 0xff7f | 0x80);
            run(NO_REQUESTS);
            due("set", x.word(0), control & 0xff7f | 0x80);
        }
        sentence("Op 5: r 0 ST(i) becomes EMPTY");
        for (int i = 0; i < 8; i++) {
            givenFull(N64 & ~63, "1");
            run(FREE + i);
            due("tags", x.word(2), 3 << 2 * i);
            run(FREE + i);
            due("EMPTY already", x.word(2), 3 << 2 * i);
            told(0);
            due("TOP", top(), 0);
            due("what is in it stays", x.part(i, 0), real(Integer.toString(i + 1))[0]);
        }
        sentence("2 ST(i) becomes ST(0) (needed), 3 and popped");
        for (int i = 0; i < 8; i++) {
            given(N64 & ~63, "7fff:0+1", "2");
            run(MOVE + i);
            holds(i, "7fff:0+1");
            holds(0, "7fff:0+1");
            told(0);
            given(N64 & ~63, "7fff:0+1", "2");
            run(MOVE_POP + i);
            due("popped", top(), 7);
            due("EMPTY", isEmpty(7) ? 1 : 0, 1);
            holds(i > 0 ? i - 1 : 0, i > 0 ? "7fff:0+1" : "2");
        }
    }

    private static void comparedAndExamined() {
        sentence("COMPARED (as COMPARE says): below C0 is set, the same C3, above none, 2 C0, C2 and C3; of these three the others"
            + " are not set; C1 stays.");
        String[] first = {"1", "2", "3", "7fff:c"};
        int[] wants = {C0, C3, 0, C0 | C2 | C3};
        for (int i = 0; i < 4; i++) {
            for (int before = 0; before < 16; before++) {
                int set = (before & 7) << 8 | (before & 8) << 11;
                given(N64, first[i], "2");
                setConditions(set);
                run(COMPARE);
                due("status", x.word(1), wants[i] | set & C1 | (i == 3 ? INVALID : 0) | 6 << 11);
            }
        }
        sentence("EXAMINED: EMPTY 9, UNNORMAL 0, NO NUMBER 1, NORMAL 4, INFINITE 5, ZERO 8, DENORMAL 12, 2 more (not for EMPTY)"
            + " with the sign -: C0, C1, C2, C3 are its bits 0 to 3.");
        String[] reals = {"4000:1", "7fff:c", "1", "7fff:0", "0", LEAST, "4000:0"};
        int[] seen = {0, C0, C2, C0 | C2, C3, C2 | C3, 0};
        for (int i = 0; i < reals.length; i++) {
            for (int before = 0; before < 16; before++) {
                given(N64, reals[i]);
                setConditions((before & 7) << 8 | (before & 8) << 11);
                run(EXAMINE);
                due(reals[i], conditions(), seen[i]);
                run(TURN_SIGN, EXAMINE);
                due("-" + reals[i], conditions(), seen[i] | C1);
                run(FREE, EXAMINE);
                due("EMPTY", conditions(), C0 | C3);
                givenFull(N64, reals[i]);
                run(EXAMINE);
                due(reals[i] + ", TOP 0", x.word(1), seen[i]);
            }
        }
    }

    // ---- which are codes, and the POINTERS

    private static final String[] MEMORY_CODES = {"xxxxxxxx", "x.xx----", "xxxxxxxx", "x.xx.x.x", "xxxxxxxx", "x.xx-.--",
        "xxxxxxxx", "x.xxxxxx"};
    private static final String[] REGISTER_CODES = {
        "xxxxxxxx xxxxxxxx xxxxxxxx xxxxxxxx xxxxxxxx xxxxxxxx xxxxxxxx xxxxxxxx",
        "xxxxxxxx xxxxxxxx x....... ........ xx..xx.. xxxxxxx. RRRRx.xx xRx.xx..",
        "........ ........ ........ ........ ........ ........ ........ ........",
        "........ ........ ........ ........ ----.... ........ ........ ........",
        "xxxxxxxx xxxxxxxx ........ ........ xxxxxxxx xxxxxxxx xxxxxxxx xxxxxxxx",
        "xxxxxxxx ........ xxxxxxxx xxxxxxxx ........ ........ ........ ........",
        "xxxxxxxx xxxxxxxx ........ .x...... xxxxxxxx xxxxxxxx xxxxxxxx xxxxxxxx",
        "........ ........ ........ ........ ........ ........ ........ ........"};

    /** x a code that keeps pointers, - one that does not, R refused, . no code. */
    private static char sortOf(int op, int code) {
        int r = code >> 3 & 7;
        return code < 192 ? MEMORY_CODES[op].charAt(r) : REGISTER_CODES[op].charAt(9 * r + (code & 7));
    }

    private static void allCodes() {
        sentence("What is not named is NO CODE.");
        everyCode('.', PartnerStack.NO_CODE);
        sentence("0 to 3 REFUSED .. 1 REFUSED");
        everyCode('R', PartnerStack.REFUSED);
        sentence("each code but those of op 1 memory 4 to 7, op 3 registers, op 5 memory 4, 6, 7 (and NO CODE, REFUSED) keeps op"
            + " times 256 and its byte, the code's place and the operand's place");
        everyCode('x', PartnerStack.DONE);
        everyCode('-', PartnerStack.DONE);
        sentence("also when it ENDS");
        for (int op = 0; op < 8; op++) {
            for (int code = 0; code < 256; code++) {
                if (sortOf(op, code) == 'x') {
                    given(N64 & ~63);
                    due("done", x.execute(op, code, 0xfffff, 0), PartnerStack.DONE);
                    due("code", x.word(4), op * 256 + code);
                    due("place", x.word(5), 0xfffff);
                    due("operand", x.word(6), 0);
                }
            }
        }
    }

    private static void everyCode(char sort, int answer) {
        for (int op = 0; op < 8; op++) {
            for (int code = 0; code < 256; code++) {
                if (sortOf(op, code) == sort) {
                    oneCode(op, code, sort, answer);
                }
            }
        }
    }

    private static void oneCode(int op, int code, char sort, int answer) {
        given(N64, "1", "2");
        due("told first", x.execute(0, 0xf7, 0x777, 0x888), PartnerStack.DONE);
        told(INVALID);
        boolean isInitial = op == 3 && code == 0xe3 || op == 5 && code < 192 && (code >> 3 & 7) == 6;
        if (op == 1 && code < 192 || op == 5 && code < 192) {
            run(WRITE_ENVIRONMENT);
            told(0);
        }
        int[] before = seen();
        String name = op + "/" + Integer.toHexString(code);
        due(name, x.execute(op, code, 0xabcde, 0x54321), answer);
        if (answer != PartnerStack.DONE) {
            unchanged(name, before);
            return;
        }
        boolean keeps = sort == 'x';
        due(name + " code", x.word(4), isInitial ? 0 : keeps ? op * 256 + code : 0x0f7);
        due(name + " place", x.word(5), isInitial ? 0 : keeps ? 0xabcde : 0x777);
        due(name + " operand", x.word(6), isInitial ? 0 : keeps ? 0x54321 : 0x888);
    }

    // ---- THE ENVIRONMENT

    private static void environment() {
        sentence("THE ENVIRONMENT is 14 bytes, seven words: control; status; tags; the code's place, lower 16 bits; its upper four"
            + " times 4096 and the code; the operand's place likewise, without a code.");
        int[][] places = {{0, 0}, {0xfffff, 0xfffff}, {0x10000, 0xffff}, {0xffff, 0x10000}, {0x54321, 0x98765}};
        for (int[] place : places) {
            given(0xf27f, "-0");
            due("told", x.execute(0, 0xff, place[0], place[1]), PartnerStack.DONE);
            fill(0x5a);
            run(WRITE_ENVIRONMENT);
            long[] words = {0xf27f, 7 << 11 | INVALID, 0xbfff, place[0] & 0xffff, (place[0] >> 16) * 4096 + 0x0ff,
                place[1] & 0xffff, (place[1] >> 16) * 4096};
            for (int i = 0; i < 7; i++) {
                due("word " + i, memoryBits(2 * i, 2), words[i]);
            }
            for (int i = 14; i < 94; i++) {
                due("the others stay", x.byteAt(i), 0x5a);
            }
            due("nothing else changes", x.word(0), 0xf27f);
            due("pointers", x.word(5), place[0]);
        }
        given(N64 & ~INVALID);
        ends(0x0c0, INVALID);
        run(WRITE_ENVIRONMENT);
        due("bit 7 is written", memoryBits(2, 2), 128 | INVALID);
        due("code of op 7", codeWritten(7, 0x28), 0x728);
        sentence("Read: of the status bits 0 to 5, 8 to 14; of a tag whether it is 3; of the code its lowest 11 bits.");
        for (int bit = 0; bit < 16; bit++) {
            given(N64);
            fill(0);
            put(0, 2, N64);
            put(2, 2, 1 << bit);
            run(READ_ENVIRONMENT);
            due("status bit " + bit, x.word(1), bit == 6 || bit == 7 || bit == 15 ? 0 : 1 << bit);
        }
        for (int tag = 0; tag < 4; tag++) {
            // Registers 0 to 4 are ZERO in a new object, 5 to 7 hold these.
            given(N64, "1", "0", "inf");
            fill(0);
            put(0, 2, N64);
            put(4, 2, tag * 0x5555);
            run(READ_ENVIRONMENT);
            due("tags", x.word(2), tag == 3 ? 0xffff : 0x9155);
            due("TOP", top(), 0);
        }
        for (int bit = 0; bit < 16; bit++) {
            given(N64);
            fill(0);
            put(0, 2, N64);
            put(8, 2, 1 << bit);
            put(12, 2, 1 << bit);
            run(READ_ENVIRONMENT);
            due("code, bit " + bit, x.word(4), bit < 11 ? 1 << bit : 0);
            due("its place", x.word(5), bit < 12 ? 0 : 1 << bit + 4);
            due("the operand's", x.word(6), bit < 12 ? 0 : 1 << bit + 4);
        }
        given(N64);
        fill(0xff);
        run(READ_ENVIRONMENT);
        int[] words = {0xffff, 0x7f3f, 0xffff, 0, 0x7ff, 0xfffff, 0xfffff, 0};
        for (int i = 0; i < 8; i++) {
            due("word " + i + " of all ones", x.word(i), words[i]);
        }
        given(N64);
        fill(0xff);
        put(0, 2, 0);
        run(READ_ENVIRONMENT);
        due("nothing masked", x.word(1), 0x7fbf);
        due("a REQUEST", x.word(3), 1);
    }

    private static long codeWritten(int op, int code) {
        given(N64);
        put(0, 8, 0);
        x.execute(op, code, 0, 0);
        run(WRITE_ENVIRONMENT);
        return memoryBits(8, 2);
    }

    /** Eight registers, one of them EMPTY, with the stack turned; then SAVE. What was seen before it. */
    private static int[] saved(int turns) {
        givenFull(N64 & ~63 | 0xe000, "7fff:0+1");
        for (int i = 0; i < turns; i++) {
            run(TOP_MORE);
        }
        run(FREE + 3);
        int[] before = seen();
        fill(0x5a);
        run(SAVE);
        return before;
    }

    private static void wholeStates() {
        sentence("SAVE writes it and ST(0) to ST(7) as patterns, then INITIAL");
        for (int turns = 0; turns < 8; turns++) {
            int[] before = saved(turns);
            long[] words = {before[0], turns << 11, before[2], CODE_PLACE & 0xffff, CODE_PLACE >> 16 << 12 | FREE + 3,
                OPERAND_PLACE & 0xffff, OPERAND_PLACE >> 16 << 12};
            for (int i = 0; i < 7; i++) {
                due("word " + i, memoryBits(2 * i, 2), words[i]);
            }
            for (int k = 0; k < 8; k++) {
                int register = (k + turns) % 8;
                long[] real = real(register == 0 ? "7fff:0+1" : Integer.toString(register + 1));
                due("fraction " + k, memoryBits(14 + 10 * k, 8), real[1]);
                due("top " + k, memoryBits(22 + 10 * k, 2), real[0]);
            }
            isInitial();
            due("what is in them stays", x.part(0, 2), 1);
            due("what is in them stays", x.part(7, 0), 0x4002);
        }
        sentence("RESTORE reads that.");
        for (int turns = 0; turns < 8; turns++) {
            int[] before = saved(turns);
            run(TOP_LESS, TOP_LESS, TOP_LESS, PUSH_PI, PUSH_PI, PUSH_PI, RESTORE);
            int[] now = seen();
            for (int i = 0; i < 32; i++) {
                due("what is seen at " + i, now[i], before[i]);
            }
        }
    }

    private static void isInitial() {
        int[] words = {0x3ff, 0, 0xffff, 0, 0, 0, 0, 0};
        for (int i = 0; i < 8; i++) {
            due("INITIAL word " + i, x.word(i), words[i]);
        }
    }

    private static void initial() {
        sentence("INITIAL: the control is 0x03ff, the status 0, all registers EMPTY, pointers 0; what is in them stays.");
        givenFull(0xe040, "1");
        run(0x0c0, TOP_MORE, TOP_MORE, TOP_MORE, EXAMINE);
        setConditions(CONDITIONS);
        run(PUSH_PI);
        fill(0x5a);
        run(INITIAL);
        isInitial();
        String[] want = {"2", "2", "3", "4", "5", "6", "7", "8"};
        for (int k = 0; k < 8; k++) {
            due("ST(" + k + ") stays", x.part(k, 0), real(want[k])[0]);
        }
        due("memory stays", x.byteAt(0), 0x5a);
        due("memory stays", x.byteAt(93), 0x5a);
    }

    public static void main(String[] args) {
        registers();
        pushed();
        popped();
        needed();
        notNeeded();
        ending();
        status();
        tags();
        modes();
        memoryCodes();
        arithmetic();
        intoOthers();
        ownCodes();
        extractOnFull();
        controlCodes();
        comparedAndExamined();
        allCodes();
        environment();
        wholeStates();
        initial();
        finish("codes");
    }
}
