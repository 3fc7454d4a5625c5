/** Promise 7: every instruction on a register and an operand, by each way to the operand. */
public final class OperandsTest {
    private static final String[] LOWER = {"SUB A", "CMP A", "SBC A", "SUB D", "AND A", "BIT A",
        "LD A", "ST A", "EOR A", "ADC A", "OR A", "ADD A", "CMP X", "", "LD X", "ST X"};
    private static final String[] UPPER = {"SUB B", "CMP B", "SBC B", "ADD D", "AND B", "BIT B",
        "LD B", "ST B", "EOR B", "ADC B", "OR B", "ADD B", "LD D", "ST D", "LD U", "ST U"};
    private static final String[] SECOND_LOWER = {"", "", "", "CMP D", "", "", "", "", "", "", "",
        "", "CMP Y", "", "LD Y", "ST Y"};
    private static final String[] SECOND_UPPER = {"", "", "", "", "", "", "", "", "", "", "", "",
        "", "", "LD S", "ST S"};
    private static final int[] BYTES = {0, 1, 0x55, 0x7f, 0x80, 0xfe, 0xff};
    private static final int[] WORDS = {0, 1, 0xff, 0x100, 0x7fff, 0x8000, 0xfeff, 0xffff};
    private static final int[] OTHERS = {Bench.X, Bench.Y, Bench.U, Bench.A, Bench.B, Bench.DP};
    private static final int[] OTHER_VALUES = {0x1221, 0x2332, 0x3443, 0x45, 0x54, 1};
    private static final int IMMEDIATE = 0;
    private static final int DIRECT = 1;
    private static final int INDEXED = 2;

    public static void main(String[] args) {
        for (int kind = 0; kind < 16; kind++) {
            inEachWay(LOWER[kind], false, 0x80 | kind);
            inEachWay(UPPER[kind], false, 0xc0 | kind);
            inEachWay(SECOND_LOWER[kind], true, 0x80 | kind);
            inEachWay(SECOND_UPPER[kind], true, 0xc0 | kind);
        }
        Checks.end();
    }

    private static void inEachWay(String name, boolean second, int op) {
        if (name.isEmpty()) {
            return;
        }
        String action = name.substring(0, name.indexOf(' '));
        char register = name.charAt(name.length() - 1);
        int[] values = isByte(register) ? BYTES : WORDS;
        for (int way = IMMEDIATE; way <= 3; way++) {
            if (way == IMMEDIATE && action.equals("ST")) {
                continue;
            }
            for (int r : values) {
                for (int m : values) {
                    one(action, register, second, op | way << 4, r, m);
                }
            }
        }
    }

    private static boolean isByte(char register) {
        return register == 'A' || register == 'B';
    }

    private static int numberOf(char register) {
        switch (register) {
            case 'A': return Bench.A;
            case 'B': return Bench.B;
            case 'D': return Bench.D;
            case 'X': return Bench.X;
            case 'Y': return Bench.Y;
            case 'U': return Bench.U;
            default: return Bench.S;
        }
    }

    private static void one(String action, char register, boolean second, int op, int r, int m) {
        int number = numberOf(register);
        int bits = isByte(register) ? 8 : 16;
        // S cannot be brought in by a frame: it is 128 on the bench.
        int before = register == 'S' ? 128 : r;
        int c = (r ^ m) & 1;
        int cc = 0x60 | (c == 1 ? 15 : 0);
        int way = op >> 4 & 3;
        Bench bench = new Bench(action + register + " way " + way + ", " + before + " and " + m);
        for (int k = 0; k < OTHERS.length; k++) {
            bench.with(OTHERS[k], OTHER_VALUES[k]);
        }
        if (register != 'S') {
            bench.with(number, before);
        }
        bench.with(Bench.CC, cc);
        layOperand(bench, way, m, bits);
        bench.does(code(second, op, way, m, bits));
        boolean stores = action.equals("ST");
        bench.has(number, resultOf(action, before, m, c) & (1 << bits) - 1)
                .has(Bench.CC, 0x60 | flagsOf(action, before, m, c, bits))
                .took(length(second, way, bits) + (way == IMMEDIATE ? 0 : bits / 8))
                .at(Bench.CODE + length(second, way, bits));
        if (way != IMMEDIATE) {
            holdsOperand(bench, way, stores ? before : m, bits);
        }
        othersStay(bench, register);
    }

    private static void othersStay(Bench bench, char register) {
        int number = numberOf(register);
        for (int k = 0; k < OTHERS.length; k++) {
            boolean inD = register == 'D' && OTHERS[k] <= Bench.B && OTHERS[k] >= Bench.A;
            if (OTHERS[k] != number && !inD) {
                bench.has(OTHERS[k], OTHER_VALUES[k]);
            }
        }
        if (register != 'S') {
            bench.has(Bench.S, 128);
        }
    }

    private static int addressOf(int way) {
        return way == DIRECT ? 256 + 200 : way == INDEXED ? 0 : 480;
    }

    /** By indexing the operand lies at 0: PC's word offset brings it there for all registers. */
    private static int[] code(boolean second, int op, int way, int m, int bits) {
        int[] made = new int[length(second, way, bits)];
        int next = 0;
        if (second) {
            made[next++] = 0x10;
        }
        made[next++] = op;
        if (way == DIRECT) {
            made[next] = 200;
            return made;
        }
        int word = way == INDEXED ? -(Bench.CODE + made.length) : way == IMMEDIATE ? m : 480;
        if (way == INDEXED) {
            made[next++] = 0x8d;
        }
        if (way != IMMEDIATE || bits == 16) {
            made[next++] = word >> 8 & 255;
        }
        made[next] = word & 255;
        return made;
    }

    private static int length(boolean second, int way, int bits) {
        int ops = second ? 2 : 1;
        switch (way) {
            case IMMEDIATE: return ops + bits / 8;
            case DIRECT: return ops + 1;
            case INDEXED: return ops + 3;
            default: return ops + 2;
        }
    }

    private static void layOperand(Bench bench, int way, int m, int bits) {
        if (way == IMMEDIATE) {
            return;
        }
        if (bits == 8) {
            bench.bytes(addressOf(way), m, 0x77);
        } else {
            bench.bytes(addressOf(way), m >> 8, m & 255, 0x77);
        }
    }

    private static void holdsOperand(Bench bench, int way, int value, int bits) {
        int address = addressOf(way);
        if (bits == 8) {
            bench.holds(address, value).holds(address + 1, 0x77);
        } else {
            bench.holds(address, value >> 8).holds(address + 1, value & 255)
                    .holds(address + 2, 0x77);
        }
    }

    private static int resultOf(String action, int r, int m, int c) {
        switch (action) {
            case "SUB": return r - m;
            case "SBC": return r - m - c;
            case "AND": return r & m;
            case "LD": return m;
            case "EOR": return r ^ m;
            case "ADC": return r + m + c;
            case "OR": return r | m;
            case "ADD": return r + m;
            default: return r;
        }
    }

    private static int flagsOf(String action, int r, int m, int c, int bits) {
        switch (action) {
            case "SUB":
            case "CMP": return Flags.ofDifference(r, m, 0, bits);
            case "SBC": return Flags.ofDifference(r, m, c, bits);
            case "ADD": return Flags.ofSum(r, m, 0, bits);
            case "ADC": return Flags.ofSum(r, m, c, bits);
            case "BIT": return Flags.signOf(r & m, bits) | c;
            default: return Flags.signOf(resultOf(action, r, m, c), bits) | c;
        }
    }
}
