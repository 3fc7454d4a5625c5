/** Promise 7: what the instructions do besides flags of bytes, and their cycles. */
public final class InstructionsTest {
    public static void main(String[] args) {
        loadsOfWords();
        stores();
        bytesFromMemory();
        calls();
        jumps();
        branches();
        conditionCodes();
        signExtensionAndProduct();
        movesOfRegisters();
        loadedAddresses();
        pushes();
        pulls();
        Checks.end();
    }

    private static Bench bench(String name) {
        return new Bench(name);
    }

    private static void loadsOfWords() {
        bench("LDD").with(Bench.CC, 15).does(0xcc, 0x80, 0).has(Bench.D, 0x8000).has(Bench.CC, 9);
        bench("LDX").with(Bench.CC, 15).does(0x8e, 0, 0).has(Bench.X, 0).has(Bench.CC, 5);
        bench("LDU").with(Bench.CC, 15).does(0xce, 0, 0x80).has(Bench.U, 0x80).has(Bench.CC, 1);
        bench("LDY").with(Bench.CC, 2).does(0x10, 0x8e, 0xff, 1).has(Bench.Y, 0xff01)
                .has(Bench.CC, 8).took(4).at(304);
        bench("LDS").with(Bench.CC, 2).does(0x10, 0xce, 0, 90).has(Bench.S, 90)
                .has(Bench.CC, 0).took(4);
        bench("LDD extended").bytes(20, 1, 2).does(0xfc, 0, 20).has(Bench.A, 1).has(Bench.B, 2)
                .took(5);
        bench("LDS extended").bytes(20, 1, 2).does(0x10, 0xfe, 0, 20).has(Bench.S, 258).took(6);
        bench("ADDD direct").with(Bench.D, 1).bytes(20, 1, 255).does(0xd3, 20)
                .has(Bench.D, 0x200).took(4);
        bench("CMPY indexed").with(Bench.Y, 20).bytes(20, 0, 20).does(0x10, 0xac, 0x20)
                .has(Bench.CC, 4).took(5);
    }

    private static void stores() {
        bench("STA").with(Bench.A, 0x80).with(Bench.CC, 7).does(0x97, 20).holds(20, 0x80)
                .has(Bench.CC, 9).took(3);
        bench("STB").with(Bench.B, 0).with(Bench.CC, 11).bytes(20, 9).does(0xf7, 0, 20)
                .holds(20, 0).has(Bench.CC, 5).took(4);
        bench("STD").with(Bench.D, 0x1234).with(Bench.CC, 14).does(0xdd, 20).holds(20, 0x12)
                .holds(21, 0x34).has(Bench.CC, 0).took(4);
        bench("STX").with(Bench.X, 0x8034).does(0xbf, 0, 20).holds(20, 0x80).holds(21, 0x34)
                .has(Bench.CC, 8).took(5);
        bench("STU").with(Bench.U, 0x0134).with(Bench.X, 20).does(0xef, 0x84).holds(20, 1)
                .holds(21, 0x34).took(4);
        bench("STY").with(Bench.Y, 0).bytes(20, 1, 2).does(0x10, 0x9f, 20).holds(20, 0)
                .holds(21, 0).has(Bench.CC, 4).took(5);
        bench("STS").does(0x10, 0xdf, 20).holds(20, 0).holds(21, 128).took(5);
    }

    private static void bytesFromMemory() {
        bench("SUBA direct").with(Bench.A, 9).bytes(20, 4).does(0x90, 20).has(Bench.A, 5).took(3);
        bench("CMPB extended").with(Bench.B, 9).bytes(20, 9).does(0xf1, 0, 20).has(Bench.B, 9)
                .has(Bench.CC, 4).took(4);
        bench("EORB indexed").with(Bench.B, 9).with(Bench.U, 20).bytes(20, 3).does(0xe8, 0xc0)
                .has(Bench.B, 10).has(Bench.U, 21).took(3);
        bench("SUBB immediate").with(Bench.B, 9).does(0xc0, 4).has(Bench.B, 5).has(Bench.A, 0);
        bench("CMPB immediate").with(Bench.B, 9).does(0xc1, 9).has(Bench.B, 9).has(Bench.CC, 4);
        bench("SBCA immediate").with(Bench.A, 9).with(Bench.CC, 1).does(0x82, 4).has(Bench.A, 4);
        bench("ADCB immediate").with(Bench.B, 9).with(Bench.CC, 1).does(0xc9, 4).has(Bench.B, 14);
        bench("ADDA immediate").with(Bench.A, 9).with(Bench.CC, 1).does(0x8b, 4).has(Bench.A, 13);
        bench("BITA direct").with(Bench.A, 0x80).bytes(20, 0xff).does(0x95, 20)
                .has(Bench.A, 0x80).has(Bench.CC, 8).took(3);
    }

    private static void calls() {
        bench("BSR").with(Bench.CC, 15).does(0x8d, 10).at(312).has(Bench.S, 126).holds(126, 1)
                .holds(127, 46).took(4).has(Bench.CC, 15);
        bench("BSR back").does(0x8d, 0x80).at(302 - 128);
        bench("JSR direct").does(0x9d, 50).at(50).has(Bench.S, 126).took(4);
        bench("JSR indexed").with(Bench.X, 40).does(0xad, 0x05).at(45).took(4).holds(127, 46);
        bench("JSR extended").does(0xbd, 0x12, 0x34).at(0x1234).took(5).holds(127, 47);
        bench("RTS").bytes(128, 0x12, 0x34).does(0x39).at(0x1234).has(Bench.S, 130).took(3);
        bench("there and back").bytes(50, 0x39).does(0x9d, 50).goesOn().at(302).has(Bench.S, 128);
    }

    private static void jumps() {
        bench("JMP direct").with(Bench.CC, 15).does(0x0e, 50).at(50).took(2).has(Bench.CC, 15);
        bench("JMP indexed").with(Bench.X, 65535).does(0x6e, 0x02).at(1).took(2);
        bench("JMP [indexed]").with(Bench.X, 50).bytes(50, 1, 2).does(0x6e, 0x94).at(258).took(4);
        bench("JMP extended").does(0x7e, 0xff, 0xfe).at(0xfffe).took(3);
    }

    private static void branches() {
        for (int cc = 0; cc < 16; cc++) {
            boolean n = (cc & 8) != 0;
            boolean z = (cc & 4) != 0;
            boolean v = (cc & 2) != 0;
            boolean c = (cc & 1) != 0;
            boolean[] even = {true, !c && !z, !c, !z, !v, !n, n == v, n == v && !z};
            for (int k = 0; k < 16; k++) {
                boolean taken = even[k / 2] == (k % 2 == 0);
                bench("branch " + k + " with CC " + cc).with(Bench.CC, cc).does(0x20 | k, 0x7f)
                        .at(taken ? 302 + 127 : 302).took(2).has(Bench.CC, cc);
            }
        }
        bench("back").does(0x20, 0x80).at(302 - 128);
        bench("past 0").with(Bench.PC, 0).does(0x20, 0xfd).at(65535);
    }

    private static void conditionCodes() {
        bench("nothing").with(Bench.CC, 0x6f).does(0x12).has(Bench.CC, 0x6f).took(1).at(301);
        bench("ORCC").with(Bench.CC, 0x41).does(0x1a, 0x2a).has(Bench.CC, 0x6b).took(2).at(302);
        bench("ANDCC").with(Bench.CC, 0xff).does(0x1c, 0x55).has(Bench.CC, 0x55).took(2).at(302);
    }

    private static void signExtensionAndProduct() {
        bench("SEX 0").with(Bench.D, 0x5500).with(Bench.CC, 11).does(0x1d).has(Bench.D, 0)
                .has(Bench.CC, 7).took(1);
        bench("SEX 127").with(Bench.D, 0x557f).with(Bench.CC, 15).does(0x1d).has(Bench.D, 0x7f)
                .has(Bench.CC, 3);
        bench("SEX 128").with(Bench.D, 0x0080).does(0x1d).has(Bench.D, 0xff80).has(Bench.CC, 8);
        bench("ABX").with(Bench.X, 0xff80).with(Bench.B, 0xff).with(Bench.CC, 15).does(0x3a)
                .has(Bench.X, 0x7f).has(Bench.CC, 15).took(1);
        bench("MUL").with(Bench.D, 0xffff).with(Bench.CC, 15).does(0x3d).has(Bench.D, 0xfe01)
                .has(Bench.CC, 10).took(1);
        bench("MUL to 0").with(Bench.D, 0x00ff).with(Bench.CC, 1).does(0x3d).has(Bench.D, 0)
                .has(Bench.CC, 4);
        bench("MUL with C").with(Bench.D, 0x1018).does(0x3d).has(Bench.D, 0x180).has(Bench.CC, 1);
    }

    private static void movesOfRegisters() {
        int[] words = {Bench.D, Bench.X, Bench.Y, Bench.U, Bench.S, Bench.PC};
        int[] bytes = {Bench.A, Bench.B, Bench.CC, Bench.DP};
        moves(words);
        moves(bytes);
    }

    private static int valueOf(int register) {
        int[] values = {0x0708, 0x1122, 0x3344, 0x5566, 128, 302, 0, 0, 7, 8, 0x4c, 0x0a};
        return values[register];
    }

    private static Bench loaded(String name) {
        return bench(name).with(Bench.D, 0x0708).with(Bench.X, 0x1122).with(Bench.Y, 0x3344)
                .with(Bench.U, 0x5566).with(Bench.CC, 0x4c).with(Bench.DP, 0x0a);
    }

    private static void moves(int[] registers) {
        for (int first : registers) {
            for (int second : registers) {
                int digits = first << 4 | second;
                Bench exchange = loaded("EXG " + first + " " + second).does(0x1e, digits).took(2);
                Bench move = loaded("TFR " + first + " " + second).does(0x1f, digits).took(2);
                for (int k : registers) {
                    boolean isSecond = k == second;
                    int moved = isSecond ? valueOf(first) : valueOf(k);
                    move.has(k, moved);
                    exchange.has(k, !isSecond && k == first ? valueOf(second) : moved);
                }
            }
        }
    }

    private static void loadedAddresses() {
        bench("LEAX to 0").with(Bench.X, 1).with(Bench.CC, 11).does(0x30, 0x1f).has(Bench.X, 0)
                .has(Bench.CC, 15).took(2);
        bench("LEAY from 0").with(Bench.Y, 1).with(Bench.CC, 15).does(0x31, 0x20).has(Bench.Y, 1)
                .has(Bench.CC, 11);
        bench("LEAX, flags alone Z").with(Bench.X, 1).does(0x30, 0x01).has(Bench.CC, 0);
        bench("LEAS").with(Bench.CC, 15).does(0x32, 0x61).has(Bench.S, 129).has(Bench.CC, 15);
        bench("LEAU").with(Bench.U, 1).does(0x33, 0x5f).has(Bench.U, 0).has(Bench.CC, 0);
    }

    private static void pushes() {
        Bench all = loaded("PSHS all").does(0x34, 0xff).took(14).has(Bench.S, 116).at(302);
        int[] frame = {0x4c, 7, 8, 0x0a, 0x11, 0x22, 0x33, 0x44, 0x55, 0x66, 1, 46};
        for (int i = 0; i < 12; i++) {
            all.holds(116 + i, frame[i]);
        }
        Bench other = loaded("PSHU all").with(Bench.U, 60).does(0x36, 0xff).took(14)
                .has(Bench.U, 48).has(Bench.S, 128);
        int[] pushed = {0x4c, 7, 8, 0x0a, 0x11, 0x22, 0x33, 0x44, 0, 128, 1, 46};
        for (int i = 0; i < 12; i++) {
            other.holds(48 + i, pushed[i]);
        }
        int[] sizes = {1, 1, 1, 1, 2, 2, 2, 2};
        for (int bit = 0; bit < 8; bit++) {
            loaded("PSHS bit " + bit).does(0x34, 1 << bit).took(2 + sizes[bit])
                    .has(Bench.S, 128 - sizes[bit]).has(Bench.CC, 0x4c);
        }
        loaded("PSHS nothing").does(0x34, 0).took(2).has(Bench.S, 128);
        loaded("PSHS A, CC").does(0x34, 3).holds(126, 0x4c).holds(127, 7);
    }

    private static void pulls() {
        int[] frame = {0x45, 1, 2, 3, 4, 5, 6, 7, 8, 9, 10, 11};
        bench("PULS all").bytes(128, frame).does(0x35, 0xff).took(14).has(Bench.CC, 0x45)
                .has(Bench.A, 1).has(Bench.B, 2).has(Bench.DP, 3).has(Bench.X, 0x0405)
                .has(Bench.Y, 0x0607).has(Bench.U, 0x0809).at(0x0a0b).has(Bench.S, 140);
        bench("PULU all").with(Bench.U, 40).bytes(40, frame).does(0x37, 0xff).took(14)
                .has(Bench.CC, 0x45).has(Bench.A, 1).has(Bench.B, 2).has(Bench.DP, 3)
                .has(Bench.X, 0x0405).has(Bench.Y, 0x0607).has(Bench.S, 0x0809).at(0x0a0b)
                .has(Bench.U, 52);
        bench("PULS B, Y").bytes(128, 9, 1, 2).does(0x35, 0x24).took(5).has(Bench.B, 9)
                .has(Bench.Y, 258).has(Bench.S, 131).at(302);
        bench("PULS nothing").does(0x35, 0).took(2).has(Bench.S, 128);
    }
}
