/**
 * Promise 4 (and with it 2, 3, 5, 6 and 7): every code on many states, each brought in by RESTORE, must
 * answer and leave what the model of the document does. The states are the same in every run.
 */
public final class AgainstModelTest {
    private static final int[] POWERS = {0, 1, 2, 3, 63, 64, 8190, 8191, 8192, 15360, 15361, 16255, 16256, 16257, 16319,
        16320, 16381, 16382, 16383, 16384, 16385, 16396, 16397, 16398, 16406, 16413, 16414, 16436, 16445, 16446,
        16447, 16510, 16511, 17405, 17406, 17407, 24574, 24575, 24576, 32702, 32703, 32765, 32766, 32767};
    private static long seed = 20261115L;
    private static int wrong = 0;
    private static int done = 0;

    private static int next(int below) {
        return (int) ((bits() >>> 1) % below);
    }

    /** A mixer of a counter: plain and the same everywhere. */
    private static long bits() {
        seed += 0x9e3779b97f4a7c15L;
        long z = seed;
        z = (z ^ (z >>> 30)) * 0xbf58476d1ce4e5b9L;
        z = (z ^ (z >>> 27)) * 0x94d049bb133111ebL;
        return z ^ (z >>> 31);
    }

    private static long fraction() {
        long high = Long.MIN_VALUE;
        switch (next(12)) {
            case 0:
                return high;
            case 1:
                return -1L;
            case 2:
                return 0L;
            case 3:
                return next(2) == 0 ? high | 1L : -2L;
            case 4:
                return high | bits() >>> next(64);
            case 5:
                return high | bits() << next(64);
            case 6:
                return bits() >>> next(64);
            case 7:
                return -1L << next(64);
            case 8:
                return high | 1L << next(64) | 1L << next(64);
            case 9:
                return high | -1L << next(64) >>> next(64);
            case 10:
                return 0xc000000000000000L | (long) next(3) << 62;
            default:
                return high | bits();
        }
    }

    private static int power(int near) {
        switch (next(10)) {
            case 0:
                return next(32768);
            case 1:
                return POWERS[next(POWERS.length)];
            case 2:
                return Math.max(0, Math.min(32767, near + next(140) - 70));
            case 3:
                return Math.max(0, Math.min(32767, near + next(5) - 2));
            case 4:
                return 16383 + next(70) - 3;
            case 5:
                return 32767;
            case 6:
                return next(3);
            default:
                return next(4) == 0 ? POWERS[next(POWERS.length)] : 16383 + next(20);
        }
    }

    private static void setBytes(byte[] row, int from, int count, long value) {
        for (int i = 0; i < count; i++) {
            row[from + i] = (byte) (value >>> 8 * i);
        }
    }

    private static byte[] state() {
        byte[] row = new byte[94];
        int masks = next(3) == 0 ? next(64) : next(3) == 0 ? 63 & ~(1 << next(6)) : 63;
        setBytes(row, 0, 2, masks | next(1024) << 6);
        setBytes(row, 2, 2, next(65536));
        int tags = 0;
        int often = next(5);
        for (int i = 0; i < 8; i++) {
            tags |= next(6) < often ? 3 << 2 * i : next(3) << 2 * i;
        }
        setBytes(row, 4, 2, tags);
        for (int i = 6; i < 14; i += 2) {
            setBytes(row, i, 2, next(65536));
        }
        int near = next(32768);
        for (int k = 0; k < 8; k++) {
            near = power(near);
            setBytes(row, 14 + 10 * k, 8, fraction());
            setBytes(row, 22 + 10 * k, 2, near | next(2) << 15);
        }
        return row;
    }

    /** The first bytes of memory as some format may like them. */
    private static void operand(byte[] row) {
        int sign = next(2);
        switch (next(8)) {
            case 0:
                int[] shorts = {0, 1, 2, 126, 127, 128, 254, 255, next(256)};
                setBytes(row, 0, 4, (long) sign << 31 | (long) shorts[next(9)] << 23 | fraction() << 1 >>> 41);
                break;
            case 1:
                int[] longs = {0, 1, 2, 1022, 1023, 1024, 2046, 2047, next(2048)};
                setBytes(row, 0, 8, (long) sign << 63 | (long) longs[next(9)] << 52 | fraction() << 1 >>> 12);
                break;
            case 2:
                setBytes(row, 0, 8, (long) next(2000) - 1000);
                break;
            case 3:
                setBytes(row, 0, 8, Long.MIN_VALUE >> next(64));
                break;
            case 4:
                for (int i = 0; i < 9; i++) {
                    row[i] = (byte) (next(10) << 4 | next(10));
                }
                row[9] = (byte) next(256);
                break;
            case 5:
                setBytes(row, 0, 8, 0L);
                setBytes(row, 8, 2, sign * 0x8000L);
                break;
            case 6:
                setBytes(row, 0, 8, fraction());
                setBytes(row, 8, 2, power(16383) | sign << 15);
                break;
            default:
                setBytes(row, 0, 8, bits());
                setBytes(row, 8, 2, bits());
                break;
        }
    }

    private static int four(byte[] row, int i) {
        return row[i] & 255 | (row[i + 1] & 255) << 8 | (row[i + 2] & 255) << 16 | row[i + 3] << 24;
    }

    private static void pour(byte[] row, PartnerStack x, Model m) {
        for (int i = 0; i < 94; i += 4) {
            int at = Math.min(i, 90);
            x.memory(at, four(row, at));
        }
        for (int i = 0; i < 94; i++) {
            m.bytes[i] = row[i] & 255;
        }
    }

    private static void due(String what, long got, long want) {
        if (got != want) {
            wrong++;
            if (wrong < 40) {
                System.out.println(what + " answered " + got + ", due is " + want);
            }
        }
    }

    private static void compareAll(String told, PartnerStack x, Model m) {
        for (int what = 0; what < 8; what++) {
            due(told + " word(" + what + ")", x.word(what), m.word(what));
        }
        for (int k = 0; k < 8; k++) {
            for (int what = 0; what < 3; what++) {
                due(told + " part(" + k + ", " + what + ")", x.part(k, what), m.part(k, what));
            }
        }
        for (int i = 0; i < 94; i++) {
            due(told + " byteAt(" + i + ")", x.byteAt(i), m.bytes[i]);
        }
    }

    private static void trial(int op, int code) {
        PartnerStack x = new PartnerStack();
        Model m = new Model();
        byte[] row = state();
        pour(row, x, m);
        due("restore", x.execute(5, 32, 1, 2), m.execute(5, 32, 1, 2));
        operand(row);
        pour(row, x, m);
        int place = next(1 << 20);
        int operandPlace = next(1 << 20);
        int before = wrong;
        String told = "trial " + done + ": execute(" + op + ", " + code + ")";
        due(told, x.execute(op, code, place, operandPlace), m.execute(op, code, place, operandPlace));
        due(told + " needs", x.needs(op, code), Model.needs(op, code));
        compareAll(told, x, m);
        if (wrong > before && wrong < 40) {
            StringBuilder all = new StringBuilder("  state and operand:");
            for (byte b : row) {
                all.append(String.format(" %02x", b));
            }
            System.out.println(all);
        }
        done++;
    }

    /** Several codes behind one another, from the first state on. */
    private static void run(int length) {
        PartnerStack x = new PartnerStack();
        Model m = new Model();
        byte[] row = new byte[94];
        StringBuilder told = new StringBuilder("run:");
        for (int i = 0; i < length; i++) {
            int op = next(8);
            int code = next(256);
            if (next(3) == 0) {
                op = 1 + 2 * next(4);
                code = next(2) == 0 ? 0 : 40;
            }
            if (next(2) == 0) {
                operand(row);
                x.memory(0, four(row, 0));
                x.memory(4, four(row, 4));
                x.memory(8, four(row, 8));
                for (int j = 0; j < 12; j++) {
                    m.bytes[j] = row[j] & 255;
                }
            }
            told.append(' ').append(op).append('/').append(code);
            due(told.toString(), x.execute(op, code, i, 2 * i), m.execute(op, code, i, 2 * i));
        }
        compareAll(told.toString(), x, m);
        done++;
    }

    public static void main(String[] args) {
        int times = args.length > 0 ? Integer.parseInt(args[0]) : 1;
        for (int round = 0; round < 12 * times; round++) {
            for (int op = 0; op < 8; op++) {
                for (int code = 0; code < 256; code++) {
                    trial(op, code);
                }
            }
        }
        int[] steps = {0xf0, 0xf4, 0xf8, 0xfa, 0xfc, 0xfd, 0xe4, 0xe5};
        for (int round = 0; round < 12000 * times; round++) {
            trial(2 * next(4), next(192));
            trial(0, 192 + next(64));
            trial(4 + 2 * next(2), 192 + next(64));
            trial(1, steps[next(8)]);
            trial(1 + 2 * next(4), 8 * (2 + next(2)) + next(8));
            trial(7, 8 * (4 + next(4)));
        }
        for (int round = 0; round < 3000 * times; round++) {
            run(30);
        }
        System.out.println(done + " runs, " + wrong + " wrong answers");
        System.exit(wrong == 0 ? 0 : 1);
    }
}
