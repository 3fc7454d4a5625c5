/** Terms: frames in memory, outside of it and across its ends; E in the CC of a stacked task. */
public final class FramesTest {
    private static final int CC = 0;
    private static final int A = 1;
    private static final int B = 2;

    public static void main(String[] args) {
        frameHasItsOrder();
        stackingSetsE();
        frameOutsideIsZeroWhenTaken();
        frameOutsideOfASleepingTask();
        callsWithAFrameOutside();
        frameOutsideAtATick();
        onlyCcLiesOutside();
        onlyCcLiesInside();
        bLiesOutside();
        frameAcrossTheEndOfMemory();
        frameAcrossTheEndOfAddresses();
        frameOverTheCode();
        frameInAnotherBlock();
        pokesIntoAFrameAcrossTheEnd();
        Checks.end();
    }

    /** Task 0 with this S, then LDX of x, then a call of the kernel; all three done. */
    private static TaskComputer called(int s, int x, int call) {
        TaskComputer made = new TaskComputer();
        Checks.pokeAll(made, 40, 0x10, 0xce, s >> 8, s & 255, 0x8e, x >> 8, x & 255, 0x3f, call);
        made.start(0, 40, 9);
        Checks.due("run", made.run(3), 3);
        Checks.due("cycles", made.cycles(), 9);
        return made;
    }

    private static void frameHasItsOrder() {
        TaskComputer x = new TaskComputer();
        Checks.pokeAll(x, 0, 0xce, 0x12, 0x34, 0x10, 0x8e, 0x56, 0x78, 0x8e, 0x9a, 0xbc, 0xcc, 1,
                2, 0x1f, 0x9b, 0x3f, 2);
        x.start(0, 0, 0);
        x.run(6);
        int[] frame = {128, 1, 2, 2, 0x9a, 0xbc, 0x56, 0x78, 0x12, 0x34, 0, 17};
        for (int i = 0; i < 12; i++) {
            Checks.due("frame byte " + i, x.peek(116 + i), frame[i]);
        }
        Checks.due("below the frame", x.peek(115), 0);
        Checks.due("above the frame", x.peek(128), 0);
        Checks.due("SLEEPING", x.state(0), 3);
        Checks.due("S", x.register(0, 4), 128);
    }

    private static void stackingSetsE() {
        TaskComputer x = new TaskComputer();
        Checks.pokeAll(x, 0, 0x1c, 0x7f, 0x20, 0xfe);
        x.start(0, 0, 0);
        x.run(1);
        Checks.due("E is cleared", x.register(0, 10), 0);
        x.timer(16);
        x.run(8);
        Checks.due("not stacked yet", x.register(0, 10), 0);
        x.run(1);
        Checks.due("stacked at the tick", x.ticks(), 1);
        Checks.due("E", x.register(0, 10), 128);
    }

    private static void frameOutsideIsZeroWhenTaken() {
        TaskComputer x = called(0x1000, 7, 4);
        Checks.due("RUNNING", x.state(0), 1);
        int[] wanted = {0, 0, 0, 0, 0x1000, 0, -1, -1, 0, 0, 0, 0};
        for (int k = 0; k < 12; k++) {
            Checks.due("register " + k, x.register(0, k), wanted[k]);
        }
        for (int address = 0; address < 512; address++) {
            if (address < 40 || address > 127) {
                Checks.due("nothing stored at " + address, x.peek(address), 0);
            }
        }
    }

    private static void frameOutsideOfASleepingTask() {
        TaskComputer x = called(0x1000, 7, 2);
        Checks.due("sleeps for X as it was", x.sleeps(0), 7);
        int[] wanted = {0, 0, 0, 0, 0x1000, 0, -1, -1, 0, 0, 0, 0};
        for (int k = 0; k < 12; k++) {
            Checks.due("register " + k, x.register(0, k), wanted[k]);
        }
    }

    private static void callsWithAFrameOutside() {
        Checks.due("EXIT with A as it was", called(0x1000, 7, 3).status(0), 9);
        TaskComputer x = called(0x1000, 0, 2);
        Checks.due("SLEEP 0: taken again", x.state(0), 1);
        Checks.due("SLEEP 0: from 0", x.register(0, 5), 0);
        x = called(0x1000, 5, 200);
        Checks.due("other: B is not stored", x.register(0, 9), 0);
        Checks.due("other: C is not stored", x.register(0, 10), 0);
        x = called(0x1000, 7, 1);
        Checks.due("FORK with X as it was", x.register(1, 5), 135);
        Checks.due("FORK with A as it was", x.register(1, 8), 9);
        Checks.due("FORK: A is not stored", x.register(0, 8), 0);
        x = called(0x1000, 128, 1);
        Checks.due("FORK refused: none started", x.state(1), 0);
        Checks.due("FORK refused: B is not stored", x.register(0, 9), 0);
    }

    private static void frameOutsideAtATick() {
        TaskComputer x = new TaskComputer();
        Checks.pokeAll(x, 0, 0x12, 0x12, 0x10, 0xce, 3, 0, 0x20, 0xfe);
        x.start(0, 2, 9);
        x.timer(16);
        x.run(7);
        Checks.due("pending", x.lost(), 100000);
        Checks.due("A", x.register(0, 8), 9);
        x.run(1);
        Checks.due("A is gone", x.register(0, 8), 0);
        Checks.due("CC is gone", x.register(0, 10), 0);
        Checks.due("on from 0", x.register(0, 5), 1);
        Checks.due("S stays", x.register(0, 4), 0x300);
    }

    /** The frame lies at 65535, 0, 1 .. 10. */
    private static void onlyCcLiesOutside() {
        TaskComputer x = called(11, 0x0203, 4);
        Checks.due("A in the frame", x.peek(0), 0);
        Checks.due("X in the frame", x.peek(4), 3);
        Checks.due("CC is 0", x.register(0, 10), 0);
        Checks.due("PC", x.register(0, 5), 49);
        Checks.due("S", x.register(0, 4), 11);
        TaskComputer y = called(11, 0x0203, 77);
        Checks.due("A stays", y.register(0, 8), 9);
        Checks.due("B", y.register(0, 9), 2);
        Checks.due("C is not stored", y.register(0, 10), 0);
        Checks.due("nothing at 511", y.peek(511), 0);
    }

    /** The frame lies at 511 .. 522. */
    private static void onlyCcLiesInside() {
        TaskComputer x = called(523, 0x0203, 77);
        Checks.due("CC", x.peek(511), 129);
        Checks.due("CC is taken", x.register(0, 10), 129);
        Checks.due("A", x.register(0, 8), 0);
        Checks.due("B", x.register(0, 9), 0);
        Checks.due("PC", x.register(0, 5), 0);
        Checks.due("nothing at 0", x.peek(0), 0);
        TaskComputer y = called(523, 0x0203, 4);
        Checks.due("CC", y.register(0, 10), 128);
    }

    /** The frame lies at 510 .. 521. */
    private static void bLiesOutside() {
        TaskComputer x = called(522, 0x0203, 77);
        Checks.due("CC", x.peek(510 + CC), 129);
        Checks.due("A", x.peek(510 + A), 9);
        Checks.due("B", x.register(0, 9), 0);
        Checks.due("nothing at 0", x.peek(510 + B & 511), 0);
        TaskComputer y = called(522, 3, 1);
        Checks.due("FORK's answer", y.register(0, 8), 1);
        Checks.due("its CC", y.register(0, 10), 128);
    }

    /** The frame lies at 504 .. 515: U and PC are outside. */
    private static void frameAcrossTheEndOfMemory() {
        TaskComputer x = called(516, 0x1234, 2);
        Checks.due("CC", x.peek(504), 128);
        Checks.due("A", x.register(0, 8), 9);
        Checks.due("X", x.register(0, 1), 0x1234);
        Checks.due("PC is outside", x.register(0, 5), 0);
        Checks.due("S", x.register(0, 4), 516);
        Checks.due("nothing at 3", x.peek(3), 0);
    }

    /** The frame lies at 65528 .. 65535, 0 .. 3. */
    private static void frameAcrossTheEndOfAddresses() {
        TaskComputer x = called(4, 0x1234, 2);
        Checks.due("S wraps", x.register(0, 4), 4);
        Checks.due("PC", x.register(0, 5), 49);
        Checks.due("U is in memory", x.register(0, 3), 0);
        Checks.due("A is outside", x.register(0, 8), 0);
        Checks.due("X is outside", x.register(0, 1), 0);
        Checks.due("CC is outside", x.register(0, 10), 0);
        Checks.due("PC in memory", x.peek(3), 49);
        Checks.due("all of it in memory, from 0 on", called(12, 5, 4).register(0, 10), 128);
        Checks.due("S 0", called(0, 5, 4).register(0, 5), 0);
        Checks.due("S 0 as it was", called(0, 5, 4).register(0, 4), 0);
    }

    private static void frameOverTheCode() {
        TaskComputer x = called(60, 0x1234, 4);
        Checks.due("the call is overwritten", x.peek(48), 128);
        Checks.due("PC", x.register(0, 5), 49);
        Checks.due("the next op is the frame's A", x.peek(49), 0);
        x.run(1);
        Checks.due("it is done: a change at the frame's B", x.cycles(), 13);
        Checks.due("PC", x.register(0, 5), 51);
    }

    private static void frameInAnotherBlock() {
        TaskComputer x = called(300, 0x1234, 2);
        Checks.due("A", x.peek(289), 9);
        Checks.due("its own block is as the start left it", x.peek(127), 40);
        x.start(2, 256, 7);
        Checks.due("the other's frame is its own", x.peek(373), 7);
        Checks.due("this one stays", x.register(0, 8), 9);
        x.stop(2);
        x.start(2, 256, 7);
        x.poke(289, 44);
        Checks.due("this one is changed by pokes", x.register(0, 8), 44);
    }

    private static void pokesIntoAFrameAcrossTheEnd() {
        TaskComputer x = called(516, 0x1234, 2);
        x.poke(504, 0x15);
        x.poke(511, 0x99);
        Checks.due("CC", x.register(0, 10), 0x15);
        Checks.due("Y", x.register(0, 2), 0x99);
        x.poke(0, 0x77);
        Checks.due("U", x.register(0, 3), 0);
        TaskComputer y = called(517, 0x1234, 2);
        y.poke(511, 0x99);
        Checks.due("half of Y", y.register(0, 2), 0x9900);
    }
}
