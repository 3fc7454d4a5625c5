/** Promise 7: the flags of sums, differences, plain results, shifts and counts, by all bytes. */
public final class FlagsTest {
    private static final int N = 8;
    private static final int Z = 4;
    private static final int V = 2;
    private static final int C = 1;
    private static final int[] WORDS = {0, 1, 2, 0x7f, 0x80, 0xff, 0x100, 0x1234, 0x7ffe, 0x7fff,
        0x8000, 0x8001, 0xff00, 0xfffe, 0xffff};

    public static void main(String[] args) {
        byteSumsAndDifferences();
        wordSumsAndDifferences();
        logic();
        changesOfOneByte();
        otherFlagsStay();
        Checks.end();
    }

    private static int signOf(int result, int bits) {
        return (result == 0 ? Z : 0) | (result >> bits - 1 == 1 ? N : 0);
    }

    private static int signed(int value, int bits) {
        return value >= 1 << bits - 1 ? value - (1 << bits) : value;
    }

    private static boolean fitsSigned(int value, int bits) {
        return value >= -(1 << bits - 1) && value < 1 << bits - 1;
    }

    private static int flagsOfSum(int x, int y, int c, int bits) {
        int whole = x + y + c;
        boolean fits = fitsSigned(signed(x, bits) + signed(y, bits) + c, bits);
        return signOf(whole & (1 << bits) - 1, bits) | (whole >> bits != 0 ? C : 0)
                | (fits ? 0 : V);
    }

    private static int flagsOfDifference(int x, int y, int c, int bits) {
        boolean fits = fitsSigned(signed(x, bits) - signed(y, bits) - c, bits);
        return signOf(x - y - c & (1 << bits) - 1, bits) | (y + c > x ? C : 0) | (fits ? 0 : V);
    }

    private static void byteSumsAndDifferences() {
        for (int x = 0; x < 256; x++) {
            for (int y = 0; y < 256; y++) {
                for (int c = 0; c < 2; c++) {
                    int cc = (x + y & 1) == 0 ? 0xf0 | c : 0xfe | c;
                    sumsOf(x, y, c, cc & ~16);
                }
            }
        }
    }

    private static void sumsOf(int x, int y, int c, int cc) {
        int kept = cc & ~15;
        new Bench("ADC " + x + " " + y + " " + c).with(Bench.A, x).with(Bench.CC, cc).does(0x89, y)
                .has(Bench.A, x + y + c & 255).has(Bench.CC, kept | flagsOfSum(x, y, c, 8));
        new Bench("SBC " + x + " " + y + " " + c).with(Bench.B, x).with(Bench.CC, cc).does(0xc2, y)
                .has(Bench.B, x - y - c & 255).has(Bench.CC, kept | flagsOfDifference(x, y, c, 8));
        if (x % 5 == 0 || y % 7 == 0) {
            new Bench("ADD").with(Bench.B, x).with(Bench.CC, cc).does(0xcb, y)
                    .has(Bench.B, x + y & 255).has(Bench.CC, kept | flagsOfSum(x, y, 0, 8));
            new Bench("SUB").with(Bench.A, x).with(Bench.CC, cc).does(0x80, y)
                    .has(Bench.A, x - y & 255).has(Bench.CC, kept | flagsOfDifference(x, y, 0, 8));
            new Bench("CMP").with(Bench.A, x).with(Bench.CC, cc).does(0x81, y)
                    .has(Bench.A, x).has(Bench.CC, kept | flagsOfDifference(x, y, 0, 8));
        }
    }

    private static void wordSumsAndDifferences() {
        for (int x : WORDS) {
            for (int y : WORDS) {
                int h = y >> 8;
                int l = y & 255;
                int less = flagsOfDifference(x, y, 0, 16);
                new Bench("ADDD").with(Bench.D, x).with(Bench.CC, 0x0f).does(0xc3, h, l)
                        .has(Bench.D, x + y & 0xffff).has(Bench.CC, flagsOfSum(x, y, 0, 16)).took(3);
                new Bench("SUBD").with(Bench.D, x).with(Bench.CC, 1).does(0x83, h, l)
                        .has(Bench.D, x - y & 0xffff).has(Bench.CC, less).took(3);
                new Bench("CMPX").with(Bench.X, x).with(Bench.CC, 1).does(0x8c, h, l)
                        .has(Bench.X, x).has(Bench.CC, less).took(3);
                new Bench("CMPD").with(Bench.D, x).with(Bench.CC, 1).does(0x10, 0x83, h, l)
                        .has(Bench.D, x).has(Bench.CC, less).took(4);
                new Bench("CMPY").with(Bench.Y, x).with(Bench.CC, 1).does(0x10, 0x8c, h, l)
                        .has(Bench.Y, x).has(Bench.CC, less).took(4);
            }
        }
    }

    private static void logic() {
        int[] bytes = {0, 1, 0x0f, 0x55, 0x7f, 0x80, 0xaa, 0xf0, 0xff};
        for (int x : bytes) {
            for (int y : bytes) {
                plain("AND", 0x84, x, y, x & y, x & y);
                plain("BIT", 0x85, x, y, x, x & y);
                plain("LD", 0x86, x, y, y, y);
                plain("EOR", 0x88, x, y, x ^ y, x ^ y);
                plain("OR", 0x8a, x, y, x | y, x | y);
            }
        }
    }

    private static void plain(String name, int op, int x, int y, int result, int flagged) {
        new Bench(name + " A").with(Bench.A, x).with(Bench.CC, 0x0f).does(op, y)
                .has(Bench.A, result).has(Bench.B, 0).has(Bench.CC, C | signOf(flagged, 8)).took(2);
        new Bench(name + " B").with(Bench.B, x).does(op | 0x40, y)
                .has(Bench.B, result).has(Bench.A, 0).has(Bench.CC, signOf(flagged, 8)).took(2);
    }

    /** Each change of one byte, on A, on B and in memory, with C 0 and 1 and V as it was. */
    private static void changesOfOneByte() {
        for (int m = 0; m < 256; m++) {
            for (int cc = 0; cc < 16; cc += 3) {
                int c = cc & C;
                int v = cc & V;
                change(0, m, cc, -m & 255, flagsOfDifference(0, m, 0, 8));
                change(3, m, cc, 255 - m, signOf(255 - m, 8) | C);
                change(4, m, cc, m / 2, signOf(m / 2, 8) | v | m & 1);
                change(6, m, cc, m / 2 + 128 * c, signOf(m / 2 + 128 * c, 8) | v | m & 1);
                int kept = m / 2 + (m & 128);
                change(7, m, cc, kept, signOf(kept, 8) | v | m & 1);
                change(8, m, cc, m * 2 & 255, flagsOfLeft(m, m * 2 & 255));
                change(9, m, cc, m * 2 + c & 255, flagsOfLeft(m, m * 2 + c & 255));
                change(10, m, cc, m - 1 & 255, signOf(m - 1 & 255, 8) | (m == 128 ? V : 0) | c);
                change(12, m, cc, m + 1 & 255, signOf(m + 1 & 255, 8) | (m == 127 ? V : 0) | c);
                change(13, m, cc, m, signOf(m, 8) | c);
                change(15, m, cc, 0, Z);
            }
        }
    }

    private static int flagsOfLeft(int m, int result) {
        boolean n = result >= 128;
        boolean c = m >= 128;
        return signOf(result, 8) | (c ? C : 0) | (n != c ? V : 0);
    }

    private static void change(int kind, int m, int cc, int result, int flags) {
        String name = "change " + kind + " of " + m + " with CC " + cc;
        int access = kind == 13 || kind == 15 ? 1 : 2;
        new Bench(name + " A").with(Bench.A, m).with(Bench.CC, cc).does(0x40 | kind)
                .has(Bench.A, result).has(Bench.B, 0).has(Bench.CC, flags).took(1).at(301);
        new Bench(name + " B").with(Bench.B, m).with(Bench.CC, cc).does(0x50 | kind)
                .has(Bench.B, result).has(Bench.A, 0).has(Bench.CC, flags).took(1);
        new Bench(name + " direct").bytes(9, m).with(Bench.CC, cc).does(kind, 9)
                .holds(9, result).has(Bench.CC, flags).took(2 + access).at(302);
        new Bench(name + " indexed").bytes(9, m).with(Bench.X, 8).with(Bench.CC, cc)
                .does(0x60 | kind, 1).holds(9, result).has(Bench.CC, flags).took(2 + access);
        new Bench(name + " extended").bytes(400, m).with(Bench.CC, cc).does(0x70 | kind, 1, 144)
                .holds(400, result).has(Bench.CC, flags).took(3 + access).at(303);
    }

    private static void otherFlagsStay() {
        new Bench("E, I and the rest stay").with(Bench.CC, 0xff).with(Bench.A, 1).does(0x8b, 1)
                .has(Bench.CC, 0xf0);
        new Bench("they are not set").with(Bench.A, 255).does(0x8b, 1).has(Bench.CC, Z | C);
    }
}
