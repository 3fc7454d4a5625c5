/** Promise 7: the flags of sums, differences, plain results, shifts and counts, by all bytes. */
public final class FlagsTest {
    private static final int Z = Flags.Z;
    private static final int V = Flags.V;
    private static final int C = Flags.C;
    private static final int[] WORDS = {0, 1, 2, 0x7f, 0x80, 0xff, 0x100, 0x1234, 0x7ffe, 0x7fff,
        0x8000, 0x8001, 0xff00, 0xfffe, 0xffff};

    public static void main(String[] args) {
        byteSumsAndDifferences();
        wordSumsAndDifferences();
        logic();
        changesOfOneByte();
        otherFlagsStay();
        Checks.end();
    }

    private static void byteSumsAndDifferences() {
        for (int x = 0; x < 256; x++) {
            for (int y = 0; y < 256; y++) {
                for (int c = 0; c < 2; c++) {
                    int cc = (x + y & 1) == 0 ? 0xf0 | c : 0xfe | c;
                    sumsOf(x, y, c, cc & ~16);
                }
            }
        }
    }

    private static void sumsOf(int x, int y, int c, int cc) {
        int kept = cc & ~15;
        new Bench("ADC " + x + " " + y + " " + c).with(Bench.A, x).with(Bench.CC, cc).does(0x89, y)
                .has(Bench.A, x + y + c & 255).has(Bench.CC, kept | Flags.ofSum(x, y, c, 8));
        new Bench("SBC " + x + " " + y + " " + c).with(Bench.B, x).with(Bench.CC, cc).does(0xc2, y)
                .has(Bench.B, x - y - c & 255).has(Bench.CC, kept | Flags.ofDifference(x, y, c, 8));
        if (x % 5 == 0 || y % 7 == 0) {
            new Bench("ADD").with(Bench.B, x).with(Bench.CC, cc).does(0xcb, y)
                    .has(Bench.B, x + y & 255).has(Bench.CC, kept | Flags.ofSum(x, y, 0, 8));
            new Bench("SUB").with(Bench.A, x).with(Bench.CC, cc).does(0x80, y)
                    .has(Bench.A, x - y & 255).has(Bench.CC, kept | Flags.ofDifference(x, y, 0, 8));
            new Bench("CMP").with(Bench.A, x).with(Bench.CC, cc).does(0x81, y)
                    .has(Bench.A, x).has(Bench.CC, kept | Flags.ofDifference(x, y, 0, 8));
        }
    }

    private static void wordSumsAndDifferences() {
        for (int x : WORDS) {
            for (int y : WORDS) {
                int h = y >> 8;
                int l = y & 255;
                int less = Flags.ofDifference(x, y, 0, 16);
                new Bench("ADDD").with(Bench.D, x).with(Bench.CC, 0x0f).does(0xc3, h, l)
                        .has(Bench.D, x + y & 0xffff).has(Bench.CC, Flags.ofSum(x, y, 0, 16))
                        .took(3);
                new Bench("SUBD").with(Bench.D, x).with(Bench.CC, 1).does(0x83, h, l)
                        .has(Bench.D, x - y & 0xffff).has(Bench.CC, less).took(3);
                new Bench("CMPX").with(Bench.X, x).with(Bench.CC, 1).does(0x8c, h, l)
                        .has(Bench.X, x).has(Bench.CC, less).took(3);
                new Bench("CMPD").with(Bench.D, x).with(Bench.CC, 1).does(0x10, 0x83, h, l)
                        .has(Bench.D, x).has(Bench.CC, less).took(4);
                new Bench("CMPY").with(Bench.Y, x).with(Bench.CC, 1).does(0x10, 0x8c, h, l)
                        .has(Bench.Y, x).has(Bench.CC, less).took(4);
            }
        }
    }

    private static void logic() {
        int[] bytes = {0, 1, 0x0f, 0x55, 0x7f, 0x80, 0xaa, 0xf0, 0xff};
        for (int x : bytes) {
            for (int y : bytes) {
                plain("AND", 0x84, x, y, x & y, x & y);
                plain("BIT", 0x85, x, y, x, x & y);
                plain("LD", 0x86, x, y, y, y);
                plain("EOR", 0x88, x, y, x ^ y, x ^ y);
                plain("OR", 0x8a, x, y, x | y, x | y);
            }
        }
    }

    private static void plain(String name, int op, int x, int y, int result, int flagged) {
        new Bench(name + " A").with(Bench.A, x).with(Bench.CC, 0x0f).does(op, y)
                .has(Bench.A, result).has(Bench.B, 0).has(Bench.CC, C | Flags.signOf(flagged, 8))
                .took(2);
        new Bench(name + " B").with(Bench.B, x).does(op | 0x40, y)
                .has(Bench.B, result).has(Bench.A, 0).has(Bench.CC, Flags.signOf(flagged, 8))
                .took(2);
    }

    /** Each change of one byte, on A, on B and in memory, with C 0 and 1 and V as it was. */
    private static void changesOfOneByte() {
        for (int m = 0; m < 256; m++) {
            for (int cc = 0; cc < 16; cc += 3) {
                int c = cc & C;
                int v = cc & V;
                change(0, m, cc, -m & 255, Flags.ofDifference(0, m, 0, 8));
                change(3, m, cc, 255 - m, Flags.signOf(255 - m, 8) | C);
                change(4, m, cc, m / 2, Flags.signOf(m / 2, 8) | v | m & 1);
                change(6, m, cc, m / 2 + 128 * c, Flags.signOf(m / 2 + 128 * c, 8) | v | m & 1);
                int kept = m / 2 + (m & 128);
                change(7, m, cc, kept, Flags.signOf(kept, 8) | v | m & 1);
                change(8, m, cc, m * 2 & 255, flagsOfLeft(m, m * 2 & 255));
                change(9, m, cc, m * 2 + c & 255, flagsOfLeft(m, m * 2 + c & 255));
                int less = m - 1 & 255;
                change(10, m, cc, less, Flags.signOf(less, 8) | (m == 128 ? V : 0) | c);
                int more = m + 1 & 255;
                change(12, m, cc, more, Flags.signOf(more, 8) | (m == 127 ? V : 0) | c);
                change(13, m, cc, m, Flags.signOf(m, 8) | c);
                change(15, m, cc, 0, Z);
            }
        }
    }

    private static int flagsOfLeft(int m, int result) {
        boolean n = result >= 128;
        boolean c = m >= 128;
        return Flags.signOf(result, 8) | (c ? C : 0) | (n != c ? V : 0);
    }

    private static void change(int kind, int m, int cc, int result, int flags) {
        String name = "change " + kind + " of " + m + " with CC " + cc;
        int access = kind == 13 || kind == 15 ? 1 : 2;
        new Bench(name + " A").with(Bench.A, m).with(Bench.CC, cc).does(0x40 | kind)
                .has(Bench.A, result).has(Bench.B, 0).has(Bench.CC, flags).took(1).at(301);
        new Bench(name + " B").with(Bench.B, m).with(Bench.CC, cc).does(0x50 | kind)
                .has(Bench.B, result).has(Bench.A, 0).has(Bench.CC, flags).took(1);
        new Bench(name + " direct").bytes(9, m).with(Bench.CC, cc).does(kind, 9)
                .holds(9, result).has(Bench.CC, flags).took(2 + access).at(302);
        new Bench(name + " indexed").bytes(9, m).with(Bench.X, 8).with(Bench.CC, cc)
                .does(0x60 | kind, 1).holds(9, result).has(Bench.CC, flags).took(2 + access);
        new Bench(name + " extended").bytes(400, m).with(Bench.CC, cc).does(0x70 | kind, 1, 144)
                .holds(400, result).has(Bench.CC, flags).took(3 + access).at(303);
    }

    private static void otherFlagsStay() {
        new Bench("E, I and the rest stay").with(Bench.CC, 0xff).with(Bench.A, 1).does(0x8b, 1)
                .has(Bench.CC, 0xf0);
        new Bench("they are not set").with(Bench.A, 255).does(0x8b, 1).has(Bench.CC, Z | C);
    }
}
