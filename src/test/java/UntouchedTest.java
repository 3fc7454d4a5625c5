/** Promise 7: an instruction leaves alone what is not named; every register holds something. */
public final class UntouchedTest {
    private static final String NAMES = "ABDXYUSPC";
    private static final int[] NUMBERS = {Bench.A, Bench.B, Bench.DP, Bench.X, Bench.Y, Bench.U,
        Bench.S, Bench.PC, Bench.CC};
    private static final int[] VALUES = {0x45, 0x54, 1, 40, 60, 80, 128, Bench.CODE, 0x60};

    public static void main(String[] args) {
        changesOfMemory();
        changesOfAandB();
        branches();
        singleOnes();
        indexedFormsChangeOnlyR();
        pushesAndPulls();
        Checks.end();
    }

    /** Runs the code once: registers that are not in changed (D is DP, P is PC, C is CC) stay. */
    private static Bench only(String changed, int... code) {
        Bench bench = new Bench("op " + Integer.toHexString(code[0]) + " changes " + changed);
        for (int k = 0; k < NUMBERS.length; k++) {
            if (NUMBERS[k] != Bench.S) {
                bench.with(NUMBERS[k], VALUES[k]);
            }
        }
        bench.does(code);
        for (int k = 0; k < NUMBERS.length; k++) {
            if (changed.indexOf(NAMES.charAt(k)) < 0) {
                bench.has(NUMBERS[k], VALUES[k]);
            }
        }
        return bench;
    }

    private static void changesOfMemory() {
        int[] kinds = {0, 3, 4, 6, 7, 8, 9, 10, 12, 13, 15};
        for (int kind : kinds) {
            only("PC", kind, 200).holds(455, 0).holds(457, 0);
            only("PC", 0x60 | kind, 0x04).holds(43, 0).holds(45, 0);
            only("PC", 0x70 | kind, 1, 200).holds(455, 0).holds(457, 0);
        }
        only("P", 0x0e, 20).at(276);
        only("P", 0x6e, 0x04).at(44);
        only("P", 0x7e, 0, 20).at(20);
    }

    private static void changesOfAandB() {
        int[] kinds = {0, 3, 4, 6, 7, 8, 9, 10, 12, 13, 15};
        for (int kind : kinds) {
            only(kind == 13 ? "PC" : "APC", 0x40 | kind).at(301);
            only(kind == 13 ? "PC" : "BPC", 0x50 | kind).at(301);
        }
    }

    private static void branches() {
        for (int kind = 0; kind < 16; kind++) {
            only("P", 0x20 | kind, 4);
        }
    }

    private static void singleOnes() {
        only("P", 0x12).at(301);
        only("PC", 0x1a, 0x0f).has(Bench.CC, 0x6f).at(302);
        only("PC", 0x1c, 0x40).has(Bench.CC, 0x40).at(302);
        only("APC", 0x1d).has(Bench.A, 0).at(301);
        only("XYP", 0x1e, 0x12).has(Bench.X, 60).has(Bench.Y, 40);
        only("YP", 0x1f, 0x12).has(Bench.Y, 40);
        only("ABP", 0x1e, 0x89).has(Bench.A, 0x54).has(Bench.B, 0x45);
        only("BP", 0x1f, 0x89).has(Bench.B, 0x45);
        only("SP", 0x39).has(Bench.S, 130).at(0);
        only("XP", 0x3a).has(Bench.X, 40 + 0x54);
        only("ABPC", 0x3d).has(Bench.D, 0x45 * 0x54).at(301);
        only("APC", 0x3f, 4).has(Bench.A, 0).has(Bench.CC, 0xe0).at(302);
        only("BPC", 0x3f, 5).has(Bench.B, 2).has(Bench.CC, 0xe1).at(302);
        only("PC", 0x3f, 0x02).has(Bench.CC, 0xe0).state(3);
        only("SP", 0x8d, 4).at(306);
        only("SP", 0x9d, 4).at(260);
        only("SP", 0xad, 0x04).at(44);
        only("SP", 0xbd, 0, 20).at(20);
    }

    private static void indexedFormsChangeOnlyR() {
        String[] registers = {"X", "Y", "U", "S"};
        int[] bases = {40, 60, 80, 128};
        int[] changes = {1, 2, -1, -2};
        for (int r = 0; r < 4; r++) {
            int number = Bench.X + r;
            for (int offset = 0; offset < 32; offset++) {
                only("P", 0x6e, r << 5 | offset).at(bases[r] + offset - (offset & 16) * 2);
            }
            for (int form = 0; form < 4; form++) {
                only("P" + registers[r], 0x6e, 0x80 | r << 5 | form)
                        .has(number, bases[r] + changes[form])
                        .at(bases[r] + Math.min(0, changes[form]));
            }
            int p = 0x80 | r << 5;
            only("P", 0x6e, p | 4).at(bases[r]);
            only("P", 0x6e, p | 5).at(bases[r] + 0x54);
            only("P", 0x6e, p | 6).at(bases[r] + 0x45);
            only("P", 0x6e, p | 8, 3).at(bases[r] + 3);
            only("P", 0x6e, p | 9, 1, 3).at(bases[r] + 259);
            only("P", 0x6e, p | 11).at(bases[r] + 0x4554);
            only("P", 0x6e, p | 12, 3).at(306);
            only("P", 0x6e, p | 13, 1, 3).at(304 + 259);
            only("P", 0x6e, p | 16 | 4);
            only("P", 0x6e, p | 16 | 15, 1, 44).at(0x6e9f | r << 5);
        }
        only("XPC", 0x30, 0x24).has(Bench.X, 64).has(Bench.CC, 0x60);
        only("YPC", 0x31, 0x04).has(Bench.Y, 44).has(Bench.CC, 0x60);
        only("SP", 0x32, 0x04).has(Bench.S, 44);
        only("UP", 0x33, 0x04).has(Bench.U, 44);
    }

    private static void pushesAndPulls() {
        String pulledFromS = "CABDXYUP";
        String pulledFromU = "CABDXYSP";
        for (int bit = 0; bit < 8; bit++) {
            only("SP", 0x34, 1 << bit).at(302);
            only("UP", 0x36, 1 << bit).at(302);
            only("SP" + pulledFromS.charAt(bit), 0x35, 1 << bit);
            only("UP" + pulledFromU.charAt(bit), 0x37, 1 << bit);
        }
    }
}
