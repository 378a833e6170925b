/** The boundaries that the document names under STEPS. */
public final class BoundariesOfStepsTest extends Bench {
    private static final int NO_ORDER = C0 | C2 | C3;

    /** EXTRACT leaves the fraction in ST(0) and the power in ST(1). */
    private static void extracts(int control, String real, String power, String fraction, int told) {
        gives(control, EXTRACT, real, null, fraction, told);
        holds(1, power);
        due("TOP", top(), 6);
    }

    /** REMAINDER of a and b, and the conditions, all of which were otherwise before. */
    private static void leaves(int control, String a, String b, String want, int conditions, int told) {
        given(control, a, b);
        disturb();
        setConditions(CONDITIONS & ~conditions);
        leavesOfGiven(want, conditions, told);
    }

    /** REMAINDER that has no quotient: conditions stay. */
    private static void leavesNoQuotient(String a, String b, String want) {
        for (int conditions : new int[] {0, CONDITIONS, C1}) {
            given(N64, a, b);
            disturb();
            setConditions(conditions);
            leavesOfGiven(want, conditions, INVALID);
        }
    }

    private static void leavesOfGiven(String want, int conditions, int told) {
        run(REMAINDER);
        holds(0, want);
        told(told);
        int unmasked = (told & ~x.word(0)) != 0 ? 128 : 0;
        due("status beside " + want, x.word(1), conditions | told | unmasked | 6 << 11);
    }

    private static void tests(int control, String a, int want, int told) {
        given(control, a);
        disturb();
        setConditions(C1 | NO_ORDER & ~want);
        run(TEST);
        due(a + " and ZERO", conditions(), C1 | want);
        told(told);
        holds(0, a);
    }

    // ---- what all of them look at first

    private static void digits() {
        sentence("STEPS make with 64 digits (n is 64), whatever the PRECISION.");
        for (int n = 0; n < 4; n++) {
            int control = 0x7f | n << 8;
            gives(control, WHOLE, "403e:0-1", null, "403e:0-1", 0);
            gives(control, WHOLE, "403d:0-2", null, "403d:0-2", 0);
            gives(control, SCALE, "3fff:0-1", "1", "4000:0-1", 0);
            extracts(control, "4005:0-1", "6", "3fff:0-1", 0);
            leaves(control, "3fff:0-1", "2", "3fff:0-1", 0, 0);
            gives(control, SCALE, "0001:0-1", "-1", "0001:8", UNDER | LOSS);
            gives(control | CHOP, SCALE, GREATEST, "1", GREATEST, OVER | LOSS);
        }
    }

    private static void noNumbers() {
        sentence("(1) a real that is NO NUMBER: INVALID is told; masked the answer is that real");
        for (String no : new String[] {"7fff:0+1", "-7fff:8+1", "-7fff:c"}) {
            gives(N64, WHOLE, no, null, no, INVALID);
            extracts(N64, no, no, no, INVALID);
            for (String other : new String[] {"0", LEAST, "inf", "1", "4000:1"}) {
                gives(N64, SCALE, no, other, no, INVALID);
                gives(N64, SCALE, other, no, no, INVALID);
                leavesNoQuotient(no, other, no);
                leavesNoQuotient(other, no, no);
                orders(N64, no, other, NO_ORDER, INVALID);
                orders(N64 | VIEW, other, no, NO_ORDER, INVALID);
                endsWith(N64 & ~INVALID, SCALE, other, no, INVALID);
                endsWith(N64 & ~INVALID, REMAINDER, no, other, INVALID);
                endsWith(N64 & ~INVALID, COMPARE, no, other, INVALID);
                endsWith(N64 & ~INVALID, COMPARE_POP, other, no, INVALID);
            }
            endsWith(N64 & ~INVALID, WHOLE, no, null, INVALID);
            endsWith(N64 & ~INVALID, EXTRACT, no, null, INVALID);
            endsWith(N64 & ~INVALID, TEST, no, null, INVALID);
            tests(N64, no, NO_ORDER, INVALID);
        }
        sentence("of two the one with the greater fraction (as a whole number without a sign), of the same that without the"
            + " sign -, then the first");
        for (int code : new int[] {SCALE, REMAINDER}) {
            gives(N64, code, "7fff:0-1", "7fff:0+1", "7fff:0-1", INVALID);
            gives(N64, code, "7fff:7", "-7fff:8+1", "-7fff:8+1", INVALID);
            gives(N64, code, "-7fff:c", "7fff:c", "7fff:c", INVALID);
            gives(N64, code, "7fff:c", "-7fff:c", "7fff:c", INVALID);
        }
    }

    private static void order() {
        sentence("At first it is looked at, in this order");
        gives(N64, SCALE, "7fff:0+1", "inf", "7fff:0+1", INVALID);
        leavesNoQuotient("inf", "7fff:0+1", "7fff:0+1");
        gives(N64, SCALE, LEAST, "-16384", INDEFINITE, INVALID);
        leavesNoQuotient(LEAST, "4000:1", INDEFINITE);
        gives(N64 & ~DENORMAL, SCALE, LEAST, "inf", INDEFINITE, INVALID);
        gives(N64 & ~DENORMAL, SCALE, LEAST, "7fff:0+1", "7fff:0+1", INVALID);
        sentence("(4) DIVISION, as said.");
        extracts(N64, "-0", "-inf", "-0", DIVISION);
        endsWith(N64 & ~DIVISION, EXTRACT, "-0", null, DIVISION);
        sentence("(2) What the step does not do, as said: INVALID is told; masked the answer is the INDEFINITE: p 32767, the"
            + " sign -, f 3 times 2^62.");
        gives(N64, SCALE, LEAST, "inf", INDEFINITE, INVALID);
        gives(N64, SCALE, LEAST, "16384", INDEFINITE, INVALID);
        leavesNoQuotient(LEAST, "0", INDEFINITE);
        leavesNoQuotient("inf", LEAST, INDEFINITE);
        orders(N64, "inf", LEAST, NO_ORDER, INVALID);
        sentence("(3) A real that is DENORMAL: DENORMAL is told; masked it goes on.");
        gives(N64, WHOLE, LEAST, null, "0", DENORMAL | LOSS);
        gives(N64, SCALE, LEAST, "1", "0000:0+2", DENORMAL);
        gives(N64, SCALE, "1", LEAST, "1", DENORMAL);
        gives(N64, SCALE, "7fff:0", LEAST, "7fff:0", DENORMAL);
        gives(N64, SCALE, "-0", LEAST, "-0", DENORMAL);
        extracts(N64, LEAST, "-16445", "1", DENORMAL);
        leaves(N64, LEAST, "1", LEAST, 0, DENORMAL);
        leaves(N64, LEAST, "inf", LEAST, 0, DENORMAL);
        leaves(N64, "0", LEAST, "0", 0, DENORMAL);
        orders(N64, "0", LEAST, C0, DENORMAL);
        orders(N64 | VIEW, "inf", LEAST, 0, DENORMAL);
        tests(N64, LEAST, 0, DENORMAL);
        tests(N64, "-0000:8", C0, DENORMAL);
        sentence("What is told and not masked by (1) to (4) ends the step: then there is no answer, and no register changes.");
        int c = N64 & ~DENORMAL;
        endsWith(c, WHOLE, LEAST, null, DENORMAL);
        endsWith(c, SCALE, LEAST, "1", DENORMAL);
        endsWith(c, SCALE, "inf", LEAST, DENORMAL);
        endsWith(c, EXTRACT, LEAST, null, DENORMAL);
        endsWith(c, REMAINDER, "1", LEAST, DENORMAL);
        endsWith(c, REMAINDER, LEAST, "inf", DENORMAL);
        endsWith(c, COMPARE, LEAST, "0", DENORMAL);
        endsWith(c, COMPARE_POP, "0", LEAST, DENORMAL);
        endsWith(c, COMPARE_POP_TWICE, "0", LEAST, DENORMAL);
        endsWith(c, TEST, LEAST, null, DENORMAL);
        endsWith(N64 & ~DIVISION, EXTRACT, "0", null, DIVISION);
        endsWith(N64 & ~INVALID, SCALE, LEAST, "inf", INVALID);
        endsWith(N64 & ~INVALID, REMAINDER, LEAST, "0", INVALID);
        endsWith(N64 & ~INVALID, COMPARE, "inf", LEAST, INVALID);
        sentence("UNNORMAL ones go by their sizes, nothing is told of them but as said.");
        gives(N64, WHOLE, "4000:5", null, "1", LOSS);
        gives(N64, SCALE, "4000:4", "4001:4", "4", 0);
        extracts(N64, "4000:0+1", "-62", "1", 0);
        extracts(N64, "0001:0+1", "-16445", "1", 0);
        leaves(N64, "4003:3", "4", "2", C1, 0);
        orders(N64, "4000:4", "1", C3, 0);
        tests(N64, "-4000:0+1", C0, 0);
        gives(N64 & ~UNDER, WHOLE, "0001:0", null, "0", 0);
    }

    // ---- each of them

    private static void whole() {
        sentence("WHOLE: an infinite one is itself");
        for (String one : new String[] {"inf", "-inf", "7fff:0", "-7fff:0"}) {
            gives(N64 & ~63, WHOLE, one, null, one, 0);
            gives(N64 & ~63 | VIEW, WHOLE, one, null, one, 0);
        }
        sentence("otherwise its number rounded to the unit 1 is made");
        String[] from = {"0.5", "1.5", "2.5", "-0.5", "-1.5", "-2.5", "0.75", "-0.25", "3ffe:8+1", "-3ffe:8-1"};
        String[][] to = {
            {"0", "2", "2", "-0", "-2", "-2", "1", "-0", "1", "-0"},
            {"0", "1", "2", "-1", "-2", "-3", "0", "-1", "0", "-1"},
            {"1", "2", "3", "-0", "-1", "-2", "1", "-0", "1", "-0"},
            {"0", "1", "2", "-0", "-1", "-2", "0", "-0", "0", "-0"}};
        for (int rounding = 0; rounding < 4; rounding++) {
            for (int i = 0; i < from.length; i++) {
                gives(N64 | ROUNDINGS[rounding], WHOLE, from[i], null, to[rounding][i], LOSS);
            }
        }
        gives(N64, WHOLE, "3ffe:0-1", null, "1", LOSS);
        gives(N64, WHOLE, "403d:0-1", null, "403e:8", LOSS);
        gives(N64 | CHOP, WHOLE, "403d:0-1", null, "403d:fffffffffffffffe", LOSS);
        gives(N64 | UP, WHOLE, LEAST, null, "1", DENORMAL | LOSS);
        gives(N64 & ~UNDER | DOWN, WHOLE, "-" + LEAST, null, "-1", DENORMAL | LOSS);
        sentence("(with its sign, also when it is 0)");
        for (int rounding : ROUNDINGS) {
            gives(N64 | rounding, WHOLE, "-0", null, "-0", 0);
            gives(N64 | rounding, WHOLE, "0", null, "0", 0);
            gives(N64 | rounding, WHOLE, "-4000:0", null, "-0", 0);
        }
        gives(N64 | CHOP, WHOLE, "-0.75", null, "-0", LOSS);
        sentence("and LOSS is told when that is another number");
        gives(N64 & ~63, WHOLE, "1", null, "1", 0);
        gives(N64 & ~63, WHOLE, "403d:0-2", null, "403d:0-2", 0);
        gives(N64 & ~63, WHOLE, "403e:0-1", null, "403e:0-1", 0);
        gives(N64 & ~63, WHOLE, GREATEST, null, GREATEST, 0);
        gives(N64 & ~63, WHOLE, "403f:0+1", null, "2", 0);
        gives(N64 & ~63, WHOLE, "403e:0+1", null, "1", 0);
        gives(N64 & ~63, WHOLE, "403d:0+1", null, "0", LOSS);
        gives(N64 & ~63, WHOLE, "403d:0+3", null, "2", LOSS);
    }

    private static void scale() {
        sentence("SCALE of a and b: b infinite, or of a size of 2^14 or more, can't be.");
        for (String a : new String[] {"1", "0", "inf", LEAST}) {
            for (String b : new String[] {"inf", "-7fff:0", "16384", "-16384", GREATEST, "-16385", "7ffe:0+1", "400e:4"}) {
                gives(N64 | VIEW, SCALE, a, b, INDEFINITE, INVALID);
            }
        }
        gives(N64, SCALE, "1", "400c:0-1", "2^16383", 0);
        gives(N64, SCALE, "1", "400d:7ffe", "2^16383", 0);
        gives(N64, SCALE, "2^16383", "-400c:0-1", "1", 0);
        gives(N64, SCALE, "1", "16383", "2^16383", 0);
        gives(N64, SCALE, "1", "-16383", "0000:4", 0);
        gives(N64, SCALE, "1", "7ffe:0", "1", 0);
        sentence("An infinite a is itself.");
        gives(N64 & ~63, SCALE, "-7fff:0", "-16383", "-7fff:0", 0);
        gives(N64 & ~63, SCALE, "inf", "0", "inf", 0);
        sentence("Otherwise a's number times 2^n is made, n being b's number, cut off towards 0.");
        for (int rounding : ROUNDINGS) {
            int control = N64 & ~63 | rounding;
            gives(control, SCALE, "3", "3ffe:0-1", "3", 0);
            gives(control, SCALE, "3", "-3ffe:0-1", "3", 0);
            gives(control, SCALE, "3", "1.75", "6", 0);
            gives(control, SCALE, "3", "-1.75", "1.5", 0);
            gives(control, SCALE, "-3", "1", "-6", 0);
            gives(control, SCALE, "-3", "-1", "-1.5", 0);
            gives(control, SCALE, "-0", "5", "-0", 0);
            gives(control, SCALE, "3", "-0", "3", 0);
        }
        gives(N64, SCALE, "2", "16383", "inf", OVER | LOSS);
        gives(N64 & ~OVER, SCALE, GREATEST, "16383", "5ffd:0-1", OVER);
        gives(N64, SCALE, "1", "-16382", "2^-16382", 0);
        gives(N64 & ~UNDER, SCALE, "1", "-16382", "2^-16382", 0);
        gives(N64 & ~UNDER, SCALE, "1", "-16383", "2^8193", UNDER);
        gives(N64, SCALE, "2^-62", "-16383", "2^-16445", 0);
        gives(N64, SCALE, "2^-63", "-16383", "0", UNDER | LOSS);
        gives(N64 | UP, SCALE, "2^-63", "-16383", LEAST, UNDER | LOSS);
    }

    private static void extract() {
        sentence("EXTRACT: an infinite one gives the power infinite (without sign, f 2^63) and itself as fraction");
        for (String one : new String[] {"inf", "-inf", "7fff:0", "-7fff:0"}) {
            extracts(N64 & ~63, one, "inf", one, 0);
        }
        sentence("a number 0: DIVISION; masked the power is infinite with the sign -, the fraction ZERO with its sign");
        extracts(N64, "0", "-inf", "0", DIVISION);
        extracts(N64, "-0", "-inf", "-0", DIVISION);
        extracts(N64, "0001:0", "-inf", "0", DIVISION);
        extracts(N64, "-7ffe:0", "-inf", "-0", DIVISION);
        endsWith(N64 & ~DIVISION, EXTRACT, "7ffe:0", null, DIVISION);
        sentence("Otherwise the power is k, made, and the fraction is its number by 2^k, made.");
        extracts(N64 & ~63, "1", "0", "1", 0);
        extracts(N64 & ~63, "-3fff:0-1", "0", "-3fff:0-1", 0);
        extracts(N64 & ~63 | DOWN, "1.5", "0", "1.5", 0);
        extracts(N64 & ~63, "-2", "1", "-1", 0);
        extracts(N64 & ~63, "3ffe:0-1", "-1", "3fff:0-1", 0);
        extracts(N64 & ~63, GREATEST, "16383", "3fff:0-1", 0);
        extracts(N64 & ~63, "2^-16382", "-16382", "1", 0);
        extracts(N64 & ~63 | DENORMAL, "0000:4", "-16383", "1", DENORMAL);
        extracts(N64 & ~63 | DENORMAL, "-0000:7fffffffffffffff", "-16383", "-3fff:fffffffffffffffe", DENORMAL);
        extracts(N64 & ~63 | DENORMAL, "0000:0-1", "-16382", "3fff:0-1", DENORMAL);
        sentence("(No number: both are it.)");
        extracts(N64, "-7fff:0+1", "-7fff:0+1", "-7fff:0+1", INVALID);
        extracts(N64, "7fff:0-1", "7fff:0-1", "7fff:0-1", INVALID);
    }

    private static void remainder() {
        sentence("REMAINDER of a and b: a infinite, or b of the number 0, or UNNORMAL, can't be.");
        leavesNoQuotient("inf", "1", INDEFINITE);
        leavesNoQuotient("-7fff:0", "inf", INDEFINITE);
        leavesNoQuotient("1", "0", INDEFINITE);
        leavesNoQuotient("0", "-0", INDEFINITE);
        leavesNoQuotient("1", "0001:0", INDEFINITE);
        leavesNoQuotient("1", "0001:0+1", INDEFINITE);
        leavesNoQuotient("0", "7ffe:7fffffffffffffff", INDEFINITE);
        sentence("With b infinite, or a's number 0, the quotient q is 0, and a's number is made.");
        leaves(N64 & ~63, "-5", "inf", "-5", 0, 0);
        leaves(N64 & ~63, "5", "-7fff:0", "5", 0, 0);
        leaves(N64 & ~63, GREATEST, "inf", GREATEST, 0, 0);
        leaves(N64 & ~63, "4003:1", "inf", "2", 0, 0);
        leaves(N64 & ~63, "-0", "7fff:0", "-0", 0, 0);
        leaves(N64 & ~63, "-0", "3", "-0", 0, 0);
        leaves(N64 & ~63, "7ffe:0", "3", "0", 0, 0);
        leaves(N64 & ~63, "-7ffe:0", "2^-16382", "-0", 0, 0);
        leaves(N64 & ~UNDER, "0001:4", "inf", "2^8193", 0, UNDER);
        sentence("For d below 64, q is a's size by b's, cut off; a's size less q times b's, with a's sign, is made.");
        leaves(N64 & ~63, "1", "2", "1", 0, 0);
        leaves(N64 & ~63, "-2^-16382", GREATEST, "-2^-16382", 0, 0);
        leaves(N64 & ~63, "1", "1.5", "1", 0, 0);
        leaves(N64 & ~63, "1.5", "1", "0.5", C1, 0);
        leaves(N64 & ~63, "-1.5", "1", "-0.5", C1, 0);
        leaves(N64 & ~63, "1.5", "-1", "0.5", C1, 0);
        leaves(N64 & ~63, "3fff:8-1", "1", "3ffe:fffffffffffffffe", 0, 0);
        leaves(N64 & ~63, "2^63", "1.5", "0.5", C0 | C1, 0);
        leaves(N64 & ~63, "403e:0-1", "3fff:8", "0", C0 | C3 | C1, 0);
        leaves(N64 & ~63, "403e:0-1", "3fff:0-1", "0", 0, 0);
        leaves(N64, "0000:0+7", "0000:0+4", "0000:0+3", C1, DENORMAL);
        leaves(N64 & ~UNDER, "0000:0+7", "0000:0+4", "5fc3:c", C1, DENORMAL | UNDER);
    }

    private static void partialRemainder() {
        sentence("For others q is a's size by b's size times 2^(d - 63), cut off; a's size less q times that, with a's sign, is"
            + " made, and the step is PARTIAL.");
        leaves(N64 & ~63, "2^64", "1.5", "1", C2 | C0 | C1, 0);
        leaves(N64 & ~63, "-2^64", "1.5", "-1", C2 | C0 | C1, 0);
        leaves(N64 & ~63, "2^65", "1.5", "2", C2 | C0 | C1, 0);
        leaves(N64 & ~63, "2^64", "1", "0", C2, 0);
        leaves(N64 & ~63, "403f:0-1", "1", "0", C2 | C0 | C3 | C1, 0);
        leaves(N64, GREATEST, LEAST, "0", C2 | C0 | C3 | C1, DENORMAL);
        leaves(N64 & ~63, "7ffe:8", "0001:c", "2^16319", C2 | C0 | C1, 0);
        sentence("(When nothing is left ZERO with a's sign.)");
        for (int rounding : ROUNDINGS) {
            leaves(N64 & ~63 | rounding, "-6", "3", "-0", C3, 0);
            leaves(N64 & ~63 | rounding, "6", "-3", "0", C3, 0);
            leaves(N64 & ~63 | rounding, "-2^64", "-1", "-0", C2, 0);
        }
        sentence("REMAINDER that has a quotient: C2 when PARTIAL; C0, C3, C1 are the bits 2, 1, 0 of the quotient.");
        int[] bits = {0, C1, C3, C3 | C1, C0, C0 | C1, C0 | C3, C0 | C3 | C1};
        for (int q = 0; q < 16; q++) {
            leaves(N64 & ~63, q + ".5", "1", "0.5", bits[q & 7], 0);
        }
    }

    private static void compare() {
        sentence("COMPARE of a and b: with the VIEW 0, when one is infinite and the other not, it can't be.");
        for (String other : new String[] {"0", "-1", GREATEST, LEAST, "4000:1"}) {
            orders(N64, "inf", other, NO_ORDER, INVALID);
            orders(N64, "-7fff:0", other, NO_ORDER, INVALID);
            orders(N64, other, "-inf", NO_ORDER, INVALID);
            orders(N64, other, "7fff:0", NO_ORDER, INVALID);
        }
        sentence("The answer is -1, 0 or 1 as a's number is below, the same as, or above b's");
        String[] rising = {"-7ffe:0-1", "-7ffe:8", "-2", "-3fff:8+1", "-1", "-4000:0+1", "-2^-16382", "0001:0", "2^-16382",
            "4000:0+1", "3fff:8-1", "1", "3fff:8+1", "2", "7ffe:8", GREATEST};
        for (int i = 0; i < rising.length; i++) {
            for (int j = 0; j < rising.length; j++) {
                orders(N64 & ~63, rising[i], rising[j], i < j ? C0 : i == j ? C3 : 0, 0);
            }
        }
        orders(N64, "-" + LEAST, "0", C0, DENORMAL);
        orders(N64, "0000:8", "0000:8-1", 0, DENORMAL);
        orders(N64, "0000:0-1", "0000:7", 0, DENORMAL);
        sentence("zeros of any kind and sign are the same");
        String[] zeros = {"0", "-0", "0001:0", "-7ffe:0", "4000:0"};
        for (String a : zeros) {
            for (String b : zeros) {
                orders(N64 & ~63, a, b, C3, 0);
            }
        }
        sentence("with the VIEW 1 infinite ones are beyond all others of their sign");
        for (String other : new String[] {"0", "-7ffe:0-1", GREATEST, "4000:1"}) {
            orders(N64 & ~63 | VIEW, "7fff:0", other, 0, 0);
            orders(N64 & ~63 | VIEW, "-inf", other, C0, 0);
            orders(N64 & ~63 | VIEW, other, "inf", C0, 0);
            orders(N64 & ~63 | VIEW, other, "-7fff:0", 0, 0);
        }
        orders(N64 & ~63 | VIEW, "inf", "-inf", 0, 0);
        orders(N64 & ~63 | VIEW, "-7fff:0", "inf", C0, 0);
        orders(N64 & ~63 | VIEW, "inf", "7fff:0", C3, 0);
        orders(N64 & ~63 | VIEW, "-inf", "-inf", C3, 0);
        sentence("with 0 two infinite ones are the same");
        for (String a : new String[] {"inf", "-inf", "7fff:0", "-7fff:0"}) {
            orders(N64 & ~63, a, "inf", C3, 0);
            orders(N64 & ~63, a, "-7fff:0", C3, 0);
        }
        sentence("In (1) and (2), masked, it is 2.");
        orders(N64, "7fff:c", "7fff:c", NO_ORDER, INVALID);
        orders(N64, "1", "inf", NO_ORDER, INVALID);
        sentence("TEST is COMPARE with ZERO.");
        tests(N64 & ~63, "-0", C3, 0);
        tests(N64 & ~63, "7ffe:0", C3, 0);
        tests(N64 & ~63, "2^-16382", 0, 0);
        tests(N64 & ~63, "-2^-16382", C0, 0);
        tests(N64, "inf", NO_ORDER, INVALID);
        tests(N64 & ~63 | VIEW, "inf", 0, 0);
        tests(N64 & ~63 | VIEW, "-inf", C0, 0);
        endsWith(N64 & ~INVALID, TEST, "inf", null, INVALID);
    }

    public static void main(String[] args) {
        digits();
        noNumbers();
        order();
        whole();
        scale();
        extract();
        remainder();
        partialRemainder();
        compare();
        finish("steps");
    }
}
