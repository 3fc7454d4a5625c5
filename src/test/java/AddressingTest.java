/** Promise 7: the ways in which an operand's address is got, seen by loads and by LEA. */
public final class AddressingTest {
    private static final int[] NUMBERS = {Bench.X, Bench.Y, Bench.U, Bench.S};

    public static void main(String[] args) {
        immediateDirectExtended();
        shortOffsets();
        changesOfTheRegister();
        offsetsOfAccumulators();
        longOffsets();
        relativeToPc();
        indirect();
        registersAreReadBehindTheAddress();
        Checks.end();
    }

    private static Bench bench(String name) {
        return new Bench(name);
    }

    private static void immediateDirectExtended() {
        bench("immediate").does(0x86, 9).has(Bench.A, 9).took(2).at(302);
        bench("immediate word").does(0x8e, 1, 2).has(Bench.X, 258).took(3).at(303);
        bench("direct").bytes(20, 7).does(0x96, 20).has(Bench.A, 7).took(3).at(302);
        bench("direct, DP").with(Bench.DP, 1).bytes(260, 8).does(0x96, 4).has(Bench.A, 8);
        bench("direct word").bytes(20, 7, 8).does(0x9e, 20).has(Bench.X, 0x0708).took(4);
        bench("direct outside").with(Bench.DP, 2).does(0x96, 0).has(Bench.A, 0).took(3);
        bench("extended").bytes(400, 6).does(0xb6, 1, 144).has(Bench.A, 6).took(4).at(303);
        bench("extended word").bytes(400, 6, 5).does(0xbe, 1, 144).has(Bench.X, 0x0605).took(5);
    }

    private static Bench lea(String name, int register, int value) {
        Bench made = bench(name);
        return register == Bench.S ? made : made.with(register, value);
    }

    private static void shortOffsets() {
        for (int r = 0; r < 3; r++) {
            for (int offset = -16; offset <= 15; offset++) {
                int p = r << 5 | offset & 31;
                lea("offset " + offset, NUMBERS[r], 10).does(0x33, p)
                        .has(Bench.U, 10 + offset & 0xffff).took(2).at(302);
            }
        }
        bench("15 from S").does(0x30, 0x6f).has(Bench.X, 143).has(Bench.S, 128);
        bench("-16 from S").does(0x30, 0x70).has(Bench.X, 112);
        bench("load").with(Bench.Y, 50).bytes(47, 9).does(0xa6, 0x3d).has(Bench.A, 9).took(3);
    }

    private static void changesOfTheRegister() {
        for (int r = 0; r < 4; r++) {
            int base = r == 3 ? 128 : 60;
            int number = NUMBERS[r];
            int target = number == Bench.Y ? Bench.X : Bench.Y;
            int op = number == Bench.Y ? 0x30 : 0x31;
            int p = 0x80 | r << 5;
            lea("R+", number, base).does(op, p).has(target, base).has(number, base + 1).took(2);
            lea("R++", number, base).does(op, p | 1).has(target, base).has(number, base + 2);
            lea("-R", number, base).does(op, p | 2).has(target, base - 1).has(number, base - 1);
            lea("--R", number, base).does(op, p | 3).has(target, base - 2).has(number, base - 2);
            lea("R", number, base).does(op, p | 4).has(target, base).has(number, base).took(2);
        }
        bench("X+ wraps").with(Bench.X, 65535).does(0x31, 0x80).has(Bench.X, 0).has(Bench.Y, 65535);
        bench("--X wraps").with(Bench.X, 1).does(0x31, 0x83).has(Bench.X, 65535);
    }

    private static void offsetsOfAccumulators() {
        bench("B").with(Bench.X, 50).with(Bench.B, 0x80).does(0x31, 0x85).has(Bench.Y, 65536 - 78);
        bench("B").with(Bench.X, 50).with(Bench.B, 127).does(0x31, 0x85).has(Bench.Y, 177).took(2);
        bench("A").with(Bench.Y, 50).with(Bench.A, 0xff).does(0x30, 0xa6).has(Bench.X, 49);
        bench("D").with(Bench.U, 0xff00).with(Bench.D, 0x0123).does(0x30, 0xcb).has(Bench.X, 0x23);
    }

    private static void longOffsets() {
        bench("byte").with(Bench.X, 50).does(0x31, 0x88, 0x80).has(Bench.Y, 65536 - 78).took(3);
        bench("byte").with(Bench.X, 50).does(0x31, 0x88, 0x7f).has(Bench.Y, 177).at(303);
        bench("word").with(Bench.Y, 50).does(0x30, 0xa9, 0x12, 0x34).has(Bench.X, 0x1266).took(4);
        bench("word").with(Bench.Y, 50).does(0x30, 0xa9, 0xff, 0xff).has(Bench.X, 49).at(304);
    }

    private static void relativeToPc() {
        bench("byte").does(0x30, 0x8c, 0xfe).has(Bench.X, 301).took(3);
        bench("byte").does(0x30, 0x8c, 0x10).has(Bench.X, 319);
        bench("word").does(0x30, 0x8d, 0x01, 0x00).has(Bench.X, 560).took(4);
        bench("word").does(0x30, 0x8d, 0xff, 0x00).has(Bench.X, 48);
        bench("any R").does(0x30, 0xec, 0).has(Bench.X, 303);
    }

    private static void indirect() {
        bench("[X]").with(Bench.X, 40).bytes(40, 1, 2).does(0x31, 0x94).has(Bench.Y, 258).took(4);
        bench("[X++]").with(Bench.X, 40).bytes(40, 1, 2).does(0x31, 0x91).has(Bench.Y, 258)
                .has(Bench.X, 42);
        bench("[--X]").with(Bench.X, 40).bytes(38, 1, 2).does(0x31, 0x93).has(Bench.Y, 258)
                .has(Bench.X, 38);
        bench("[B,X]").with(Bench.X, 40).with(Bench.B, 0xff).bytes(39, 1, 2).does(0x31, 0x95)
                .has(Bench.Y, 258);
        bench("[A,X]").with(Bench.X, 40).with(Bench.A, 1).bytes(41, 1, 2).does(0x31, 0x96)
                .has(Bench.Y, 258);
        bench("[n,X]").with(Bench.X, 40).bytes(45, 1, 2).does(0x31, 0x98, 5).has(Bench.Y, 258)
                .took(5);
        bench("[nn,X]").with(Bench.X, 40).bytes(45, 1, 2).does(0x31, 0x99, 0, 5).has(Bench.Y, 258)
                .took(6);
        bench("[D,X]").with(Bench.X, 40).with(Bench.D, 5).bytes(45, 1, 2).does(0x31, 0x9b)
                .has(Bench.Y, 258);
        bench("[n,PC]").bytes(313, 1, 2).does(0x31, 0x9c, 10).has(Bench.Y, 258).took(5);
        bench("[nn,PC]").bytes(314, 1, 2).does(0x31, 0x9d, 0, 10).has(Bench.Y, 258).took(6);
        bench("[nn]").bytes(45, 1, 2).does(0x31, 0x9f, 0, 45).has(Bench.Y, 258).took(6);
        bench("[nn] loads").bytes(45, 0, 60).bytes(60, 7).does(0xa6, 0x9f, 0, 45).has(Bench.A, 7)
                .took(7);
        bench("[nn] outside").bytes(0, 7).does(0xa6, 0x9f, 2, 45).has(Bench.A, 7);
        bench("long store").with(Bench.Y, 0x0304).bytes(45, 0, 60)
                .does(0x10, 0xaf, 0x9f, 0, 45).holds(60, 3).holds(61, 4).took(9).at(305);
    }

    private static void registersAreReadBehindTheAddress() {
        bench("STX ,X++").with(Bench.X, 40).does(0xaf, 0x81).holds(40, 0).holds(41, 42);
        bench("STX ,--X").with(Bench.X, 40).does(0xaf, 0x83).holds(38, 0).holds(39, 38);
        bench("LDX ,X++").with(Bench.X, 40).bytes(40, 1, 2).does(0xae, 0x81).has(Bench.X, 258);
        bench("LEAX ,X+").with(Bench.X, 40).does(0x30, 0x80).has(Bench.X, 40);
        bench("LEAX ,-X").with(Bench.X, 40).does(0x30, 0x82).has(Bench.X, 39);
        bench("CMPX ,X++").with(Bench.X, 40).bytes(40, 0, 42).does(0xac, 0x81).has(Bench.CC, 4);
        bench("STS ,--S").does(0x10, 0xef, 0xe3).holds(126, 0).holds(127, 126);
        bench("LDA A,X").with(Bench.X, 40).with(Bench.A, 2).bytes(42, 9).does(0xa6, 0x86)
                .has(Bench.A, 9);
        bench("LDD D,X").with(Bench.X, 40).with(Bench.D, 5).bytes(45, 1, 2).does(0xec, 0x8b)
                .has(Bench.D, 258);
        bench("STD B,X").with(Bench.X, 40).with(Bench.D, 0x0105).does(0xed, 0x85).holds(45, 1)
                .holds(46, 5);
        bench("LDU ,U++").with(Bench.U, 40).bytes(40, 1, 2).does(0xee, 0xc1).has(Bench.U, 258);
        bench("STU ,--U").with(Bench.U, 40).does(0xef, 0xc3).holds(38, 0).holds(39, 38);
        bench("LDS ,S++").bytes(128, 1, 2).does(0x10, 0xee, 0xe1).has(Bench.S, 258);
        bench("STS ,S++").does(0x10, 0xef, 0xe1).holds(128, 0).holds(129, 130);
        bench("STY ,Y+").with(Bench.Y, 40).does(0x10, 0xaf, 0xa0).holds(41, 41).has(Bench.Y, 41);
        bench("CMPY ,--Y").with(Bench.Y, 40).bytes(38, 0, 38).does(0x10, 0xac, 0xa3)
                .has(Bench.CC, 4);
        bench("LEAS ,S++").does(0x32, 0xe1).has(Bench.S, 128);
        bench("LEAU ,--U").with(Bench.U, 40).does(0x33, 0xc3).has(Bench.U, 38);
        bench("LEAX [,X++]").with(Bench.X, 40).bytes(40, 1, 2).does(0x30, 0x91)
                .has(Bench.X, 258);
        bench("JMP ,X++").with(Bench.X, 40).does(0x6e, 0x81).at(40).has(Bench.X, 42);
        bench("INC ,X+").with(Bench.X, 40).does(0x6c, 0x80).holds(40, 1).has(Bench.X, 41);
        bench("CLR ,-X").with(Bench.X, 40).bytes(39, 7).does(0x6f, 0x82).holds(39, 0)
                .has(Bench.X, 39).took(3);
        bench("JSR ,S++").does(0xad, 0xe1).at(128).has(Bench.S, 128).holds(128, 1).holds(129, 46);
        bench("JSR [,S++]").bytes(128, 0, 60).does(0xad, 0xf1).at(60).has(Bench.S, 128)
                .holds(128, 1).holds(129, 46).took(6);
    }
}
