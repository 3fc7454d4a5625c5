/** Terms: addresses are words that wrap, and what lies at others than 0 .. 511 is 0. */
public final class WrapTest {
    public static void main(String[] args) {
        bytesOutsideAreZero();
        storesOutsideDoNothing();
        wordsAcrossTheEndOfMemory();
        wordsAcrossTheEndOfAddresses();
        instructionsAcrossTheEndOfMemory();
        instructionsAcrossTheEndOfAddresses();
        branchesAndCallsWrap();
        offsetsWrap();
        changesOfRegistersWrap();
        pointersWrap();
        pushesWrap();
        pullsWrap();
        callsOnAStackThatWraps();
        Checks.end();
    }

    private static Bench bench(String name) {
        return new Bench(name);
    }

    private static void bytesOutsideAreZero() {
        int[] outside = {512, 513, 767, 768, 1024, 0x7fff, 0x8000, 0xfe00, 0xffff};
        for (int address : outside) {
            bench("LDA " + address).with(Bench.A, 9).bytes(address & 511, 7)
                    .does(0xb6, address >> 8, address & 255).has(Bench.A, 0).took(4);
        }
        bench("LDA 511").bytes(511, 7).does(0xb6, 1, 255).has(Bench.A, 7);
        bench("LDA 0").bytes(0, 7).does(0xb6, 0, 0).has(Bench.A, 7);
        bench("LDX 512").with(Bench.X, 9).bytes(0, 7, 7).does(0xbe, 2, 0).has(Bench.X, 0);
        bench("INC 512").does(0x7c, 2, 0).holds(0, 0).took(5).has(Bench.CC, 0);
        bench("COM 512").does(0x73, 2, 0).has(Bench.CC, 9).holds(0, 0);
    }

    private static void storesOutsideDoNothing() {
        int[] outside = {512, 513, 767, 1024, 0x7fff, 0xfe00};
        for (int address : outside) {
            Bench stored = bench("STX " + address).with(Bench.X, 0x1234)
                    .does(0xbf, address >> 8, address & 255).took(5).at(303).has(Bench.CC, 0);
            stored.holds(address & 511, 0).holds(address + 1 & 511, 0);
        }
        bench("CLR 512").bytes(0, 7).does(0x7f, 2, 0).holds(0, 7).took(4).has(Bench.CC, 4);
        bench("STA 511").with(Bench.A, 9).does(0xb7, 1, 255).holds(511, 9);
    }

    private static void wordsAcrossTheEndOfMemory() {
        bench("load").bytes(511, 3).bytes(0, 4).does(0xfc, 1, 255).has(Bench.D, 0x0300);
        bench("store").with(Bench.D, 0x0506).does(0xfd, 1, 255).holds(511, 5).holds(0, 0).took(5);
        bench("the last whole one").bytes(510, 3, 4).does(0xfc, 1, 254).has(Bench.D, 0x0304);
        bench("its store").with(Bench.D, 0x0506).does(0xfd, 1, 254).holds(510, 5).holds(511, 6);
    }

    private static void wordsAcrossTheEndOfAddresses() {
        bench("load").bytes(0, 4).bytes(511, 3).does(0xfc, 255, 255).has(Bench.D, 4).took(5);
        bench("store").with(Bench.D, 0x0506).does(0xfd, 255, 255).holds(0, 6).holds(1, 0)
                .holds(511, 0);
        bench("direct").with(Bench.DP, 255).bytes(0, 8).does(0xde, 255).has(Bench.U, 8).took(4);
        bench("indexed").with(Bench.Y, 65535).bytes(0, 8).does(0xae, 0xa4).has(Bench.X, 8);
    }

    private static void instructionsAcrossTheEndOfMemory() {
        bench("byte behind 511").with(Bench.PC, 511).with(Bench.A, 9).bytes(0, 7).does(0x86)
                .has(Bench.A, 0).at(513).took(2);
        bench("word behind 511").with(Bench.PC, 511).with(Bench.X, 9).bytes(0, 7).does(0x8e)
                .has(Bench.X, 0).at(514).took(3);
        bench("word over 511").with(Bench.PC, 510).bytes(0, 7).does(0x8e, 0x12)
                .has(Bench.X, 0x1200).at(513);
        bench("code at 512 is 0x00, 0x00").with(Bench.PC, 512).bytes(0, 1).does().at(514)
                .holds(0, 255).took(4);
        bench("second page behind 511").with(Bench.PC, 511).does(0x10).isInvalid();
        bench("call of the kernel behind 511").with(Bench.PC, 511).does(0x3f).has(Bench.B, 2)
                .at(513).took(2);
    }

    private static void instructionsAcrossTheEndOfAddresses() {
        bench("op at 65535").with(Bench.PC, 65535).bytes(0, 9).bytes(9, 1).does().at(1)
                .holds(9, 255).took(4);
        bench("operand at 65535").with(Bench.PC, 65534).bytes(0, 9).does().at(0).holds(0, 247);
    }

    private static void branchesAndCallsWrap() {
        bench("branch before 0").with(Bench.PC, 0).does(0x20, 0xfd).at(65535);
        bench("farthest branch before 0").with(Bench.PC, 0).does(0x20, 0x80).at(65536 - 126);
        bench("branch to 0").with(Bench.PC, 0).does(0x20, 0xfe).at(0);
        bench("call before 0").with(Bench.PC, 0).does(0x8d, 0xfd).at(65535).holds(126, 0)
                .holds(127, 2).has(Bench.S, 126);
        bench("jump by an offset").with(Bench.X, 65530).does(0x6e, 0x0f).at(9);
    }

    private static void offsetsWrap() {
        bench("short, below 0").with(Bench.X, 0).does(0x31, 0x10).has(Bench.Y, 65520);
        bench("short, to 65535").with(Bench.X, 0).does(0x31, 0x1f).has(Bench.Y, 65535);
        bench("short, above 65535").with(Bench.X, 65535).does(0x31, 0x0f).has(Bench.Y, 14);
        bench("short, to 0").with(Bench.X, 65535).does(0x31, 0x01).has(Bench.Y, 0);
        bench("byte, below 0").with(Bench.X, 0).does(0x31, 0x88, 0x80).has(Bench.Y, 65408);
        bench("byte, above").with(Bench.X, 65535).does(0x31, 0x88, 0x7f).has(Bench.Y, 126);
        bench("word, above").with(Bench.X, 65535).does(0x31, 0x89, 255, 255).has(Bench.Y, 65534);
        bench("word, to 0").with(Bench.X, 0x8000).does(0x31, 0x89, 0x80, 0).has(Bench.Y, 0);
        bench("B, below 0").with(Bench.X, 0).with(Bench.B, 255).does(0x31, 0x85)
                .has(Bench.Y, 65535);
        bench("B, above").with(Bench.X, 65535).with(Bench.B, 1).does(0x31, 0x85).has(Bench.Y, 0);
        bench("A, below 0").with(Bench.X, 0).with(Bench.A, 128).does(0x31, 0x86)
                .has(Bench.Y, 65408);
        bench("A, above").with(Bench.X, 65535).with(Bench.A, 127).does(0x31, 0x86)
                .has(Bench.Y, 126);
        bench("D, above").with(Bench.X, 65535).with(Bench.D, 0xffff).does(0x31, 0x8b)
                .has(Bench.Y, 65534);
        bench("PC, below 0").with(Bench.PC, 0).does(0x31, 0x8c, 0x80).has(Bench.Y, 65536 - 125);
        bench("PC and a word, below 0").with(Bench.PC, 0).does(0x31, 0x8d, 255, 251)
                .has(Bench.Y, 65535);
        bench("PC and a word, to 0").with(Bench.PC, 0).does(0x31, 0x8d, 255, 252)
                .has(Bench.Y, 0).has(Bench.CC, 4);
        bench("B added to X").with(Bench.X, 65535).with(Bench.B, 1).does(0x3a).has(Bench.X, 0);
    }

    private static void changesOfRegistersWrap() {
        bench("X+").with(Bench.X, 65535).does(0x31, 0x80).has(Bench.X, 0).has(Bench.Y, 65535);
        bench("X++").with(Bench.X, 65535).does(0x31, 0x81).has(Bench.X, 1).has(Bench.Y, 65535);
        bench("X++ to 0").with(Bench.X, 65534).does(0x31, 0x81).has(Bench.X, 0);
        bench("-X").with(Bench.X, 0).does(0x31, 0x82).has(Bench.X, 65535).has(Bench.Y, 65535);
        bench("--X").with(Bench.X, 0).does(0x31, 0x83).has(Bench.X, 65534).has(Bench.Y, 65534);
        bench("--X from 1").with(Bench.X, 1).does(0x31, 0x83).has(Bench.X, 65535);
        bench("load by X+").with(Bench.X, 65535).bytes(0, 7).does(0xa6, 0x80).has(Bench.A, 0)
                .has(Bench.X, 0);
        bench("store by -X").with(Bench.X, 0).with(Bench.A, 5).does(0xa7, 0x82)
                .has(Bench.X, 65535).holds(511, 0);
    }

    private static void pointersWrap() {
        bench("[65535]").bytes(0, 60).bytes(60, 7).does(0xa6, 0x9f, 255, 255).has(Bench.A, 7)
                .took(7);
        bench("[511]").bytes(511, 1).bytes(256, 8).does(0xa6, 0x9f, 1, 255).has(Bench.A, 8);
        bench("[512] is 0").bytes(0, 6).does(0xa6, 0x9f, 2, 0).has(Bench.A, 6);
        bench("[X++] at 65535").with(Bench.X, 65535).bytes(0, 60).does(0x31, 0x91)
                .has(Bench.Y, 60).has(Bench.X, 1);
        bench("[--X] at 65535").with(Bench.X, 1).bytes(0, 60).does(0x31, 0x93)
                .has(Bench.Y, 60).has(Bench.X, 65535);
        bench("[X + 1] at 0").with(Bench.X, 65535).bytes(0, 0, 60).does(0x31, 0x98, 1)
                .has(Bench.Y, 60);
    }

    private static void pushesWrap() {
        bench("byte at 0").with(Bench.U, 0).with(Bench.A, 7).does(0x36, 2).has(Bench.U, 65535)
                .holds(511, 0).took(3);
        bench("byte at 1").with(Bench.U, 1).with(Bench.A, 7).does(0x36, 2).has(Bench.U, 0)
                .holds(0, 7);
        bench("word at 0").with(Bench.U, 0).with(Bench.X, 0x1234).does(0x36, 16)
                .has(Bench.U, 65534).holds(0, 0).took(4);
        bench("word at 1").with(Bench.U, 1).with(Bench.X, 0x1234).does(0x36, 16)
                .has(Bench.U, 65535).holds(0, 0x34);
        bench("word at 513").with(Bench.U, 513).with(Bench.X, 0x1234).does(0x36, 16)
                .has(Bench.U, 511).holds(511, 0x12).holds(0, 0);
        bench("S at 1").with(Bench.X, 0x1234).does(0x10, 0xce, 0, 1, 0x34, 16).goesOn()
                .has(Bench.S, 65535).holds(0, 0x34).took(4);
        bench("all at 6").with(Bench.U, 6).with(Bench.D, 0x0708).with(Bench.Y, 0x3344)
                .does(0x36, 0xff).has(Bench.U, 65530).holds(0, 0x33).holds(1, 0x44).holds(2, 0)
                .holds(3, 128).holds(4, 1).holds(5, 46).took(14);
    }

    private static void pullsWrap() {
        bench("byte at 65535").with(Bench.U, 65535).with(Bench.A, 7).does(0x37, 2)
                .has(Bench.U, 0).has(Bench.A, 0).took(3);
        bench("word at 65535").with(Bench.U, 65535).bytes(0, 9).does(0x37, 16).has(Bench.U, 1)
                .has(Bench.X, 9);
        bench("word at 65534").with(Bench.U, 65534).bytes(0, 9).does(0x37, 16).has(Bench.U, 0)
                .has(Bench.X, 0);
        bench("word at 511").with(Bench.U, 511).bytes(511, 9).does(0x37, 16).has(Bench.U, 513)
                .has(Bench.X, 0x0900);
        bench("S at 65535").bytes(0, 9).does(0x10, 0xce, 255, 255, 0x35, 16).goesOn()
                .has(Bench.S, 1).has(Bench.X, 9);
    }

    private static void callsOnAStackThatWraps() {
        bench("call with S 1").does(0x10, 0xce, 0, 1, 0x9d, 50).goesOn().at(50)
                .has(Bench.S, 65535).holds(0, 50).took(4);
        bench("call with S 0").does(0x10, 0xce, 0, 0, 0x9d, 50).goesOn().at(50)
                .has(Bench.S, 65534).holds(0, 0).took(4);
        bench("return with S 65535").bytes(0, 50).does(0x10, 0xce, 255, 255, 0x39).goesOn()
                .at(50).has(Bench.S, 1).took(3);
        bench("return from nowhere").does(0x10, 0xce, 3, 0, 0x39).goesOn().at(0)
                .has(Bench.S, 0x302);
    }
}
