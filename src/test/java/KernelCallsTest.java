/** Promise 7: the calls of the kernel, and frames wherever they lie. */
public final class KernelCallsTest {
    public static void main(String[] args) {
        forkCopiesAndStarts();
        forkTakesTheLeastFreeTask();
        forkWithoutAFreeTask();
        forkWithXTooHigh();
        forkWithXAtTheEdges();
        forkRefusedForBothReasons();
        forkTillNoTaskIsFree();
        forkCopiesTheCallersOwnBlock();
        forkIntoABlockThatWasUsed();
        forkWithTheFrameInTheNewBlock();
        forkWithTheFrameWhereTheNewOneLies();
        sleepOfNoTicksGivesWay();
        sleepAlone();
        sleepAtTheEdges();
        exit();
        exitLeavesTheNextRunning();
        identity();
        otherCalls();
        callsHaveTwoCyclesAndLeaveAFrame();
        Checks.end();
    }

    private static TaskComputer started(int t, int a, int... code) {
        TaskComputer x = new TaskComputer();
        Checks.pokeAll(x, 128 * t, code);
        x.start(t, 128 * t, a);
        return x;
    }

    private static void forkCopiesAndStarts() {
        TaskComputer x = started(1, 9, 0x8e, 0, 127, 0x1a, 1, 0x3f, 1, 0x12);
        x.poke(200, 77);
        x.poke(0, 5);
        x.run(3);
        Checks.due("caller runs", x.state(1), 1);
        Checks.due("caller's A is the new task", x.register(1, 8), 0);
        Checks.due("caller's C", x.register(1, 10), 128);
        Checks.due("caller's X", x.register(1, 1), 127);
        Checks.due("caller's S", x.register(1, 4), 256);
        Checks.due("caller's PC", x.register(1, 5), 135);
        Checks.due("new one is READY", x.state(0), 2);
        Checks.due("queue", x.queued(0), 0);
        Checks.due("new A", x.register(0, 8), 9);
        Checks.due("new X", x.register(0, 1), 0);
        Checks.due("new CC", x.register(0, 10), 128);
        Checks.due("new S", x.register(0, 4), 128);
        Checks.due("new PC", x.register(0, 5), 127);
        Checks.due("copied code", x.peek(0), 0x8e);
        Checks.due("copied byte", x.peek(200 - 128), 77);
        Checks.due("caller's frame", x.peek(245), 0);
        Checks.due("cycles", x.cycles(), 7);
        x.run(1);
        Checks.due("caller goes on", x.register(1, 5), 136);
        onlyTheBlockIsCopied();
    }

    private static void onlyTheBlockIsCopied() {
        TaskComputer x = started(0, 9, 0x8e, 0, 3, 0x3f, 1);
        x.start(1, 128, 0);
        x.poke(255, 11);
        x.poke(128, 12);
        x.poke(384, 13);
        x.run(2);
        Checks.due("new task", x.state(2), 2);
        Checks.due("below the new block", x.peek(255), 11);
        Checks.due("above the old block", x.peek(128), 12);
        Checks.due("first byte", x.peek(256), 0x8e);
        Checks.due("above the new block", x.peek(384), 13);
    }

    private static void forkTakesTheLeastFreeTask() {
        TaskComputer x = started(2, 3, 0x8e, 0, 0, 0x3f, 1, 0x20, 0xfc);
        x.start(0, 256, 0);
        x.run(2);
        Checks.due("A", x.register(2, 8), 1);
        Checks.due("PC of the new one", x.register(1, 5), 128);
        Checks.due("queued(0)", x.queued(0), 0);
        Checks.due("queued(1)", x.queued(1), 1);
        x.run(2);
        Checks.due("A of the next", x.register(2, 8), 3);
        Checks.due("A of the caller was 1", x.register(3, 8), 1);
    }

    private static void forkWithoutAFreeTask() {
        TaskComputer x = started(0, 3, 0x8e, 0, 4, 0x3f, 1, 0x12);
        x.start(1, 128, 0);
        x.start(2, 128, 0);
        x.start(3, 128, 0);
        x.run(1);
        x.poke(130, 99);
        x.run(1);
        Checks.due("state", x.state(0), 1);
        Checks.due("A stays", x.register(0, 8), 3);
        Checks.due("B", x.register(0, 9), 1);
        Checks.due("CC", x.register(0, 10), 129);
        Checks.due("no block is copied", x.peek(130), 99);
        Checks.due("queue", x.queued(2), 3);
        Checks.due("no more", x.queued(3), -1);
    }

    private static void forkWithXTooHigh() {
        int[] high = {0, 1, 255};
        for (int h : high) {
            TaskComputer x = started(0, 3, 0x8e, h, 128, 0x3f, 1);
            x.run(2);
            Checks.due("B", x.register(0, 9), 1);
            Checks.due("C", x.register(0, 10) & 1, 1);
            Checks.due("none started", x.state(1), 0);
            Checks.due("A", x.register(0, 8), 3);
        }
    }

    private static void forkWithXAtTheEdges() {
        int[] good = {0, 1, 127};
        for (int low : good) {
            TaskComputer x = started(0, 3, 0x8e, 0, low, 0x1a, 1, 0x3f, 1);
            x.run(3);
            Checks.due("A", x.register(0, 8), 1);
            Checks.due("B stays", x.register(0, 9), 0);
            Checks.due("C is lost", x.register(0, 10) & 1, 0);
            Checks.due("PC of the new one", x.register(1, 5), 128 + low);
        }
    }

    private static void forkRefusedForBothReasons() {
        TaskComputer x = started(0, 3, 0x8e, 0, 128, 0x3f, 1);
        x.start(1, 0, 0);
        x.start(2, 0, 0);
        x.start(3, 0, 0);
        x.run(2);
        Checks.due("B", x.register(0, 9), 1);
        Checks.due("CC", x.register(0, 10), 129);
        Checks.due("RUNNING", x.state(0), 1);
        Checks.due("next in the queue", x.queued(0), 1);
    }

    /** The caller forks again and again; a task that ended is FREE for the next fork. */
    private static void forkTillNoTaskIsFree() {
        TaskComputer x = started(0, 3, 0x8e, 0, 20, 0x3f, 1, 0x20, 0xfc);
        x.run(2);
        Checks.due("first", x.register(0, 8), 1);
        x.run(2);
        Checks.due("second", x.register(0, 8), 2);
        x.run(2);
        Checks.due("third", x.register(0, 8), 3);
        Checks.due("B", x.register(0, 9), 0);
        x.run(2);
        Checks.due("fourth is refused", x.register(0, 9), 1);
        Checks.due("C", x.register(0, 10), 129);
        Checks.due("A stays", x.register(0, 8), 3);
        x.stop(2);
        x.run(2);
        Checks.due("the one that is FREE again", x.register(0, 8), 2);
        Checks.due("C is lost", x.register(0, 10), 128);
        Checks.due("B stays", x.register(0, 9), 1);
        int[] wanted = {1, 3, 2, -1};
        for (int k = 0; k < 4; k++) {
            Checks.due("queued(" + k + ")", x.queued(k), wanted[k]);
        }
    }

    /** The code of task 3 lies in block 0, the block that is copied is block 3. */
    private static void forkCopiesTheCallersOwnBlock() {
        TaskComputer x = new TaskComputer();
        Checks.pokeAll(x, 100, 0x8e, 0, 5, 0x3f, 1);
        x.start(0, 0, 0);
        x.start(3, 100, 7);
        x.stop(0);
        x.poke(384, 61);
        x.poke(495, 62);
        x.poke(127, 63);
        x.run(2);
        Checks.due("the least FREE one", x.register(3, 8), 0);
        Checks.due("first byte", x.peek(0), 61);
        Checks.due("below the frame", x.peek(111), 62);
        Checks.due("the code was there", x.peek(100), 0);
        Checks.due("X of the frame is overlaid by the start's", x.peek(121), 0);
        Checks.due("PC of the new one", x.peek(127), 5);
        Checks.due("the caller's block stays", x.peek(384), 61);
        Checks.due("PC of the caller", x.register(3, 5), 105);
    }

    /** What lay in the block goes; the copied frame is under the new one when S is lower. */
    private static void forkIntoABlockThatWasUsed() {
        TaskComputer x = started(0, 9, 0x32, 0x74, 0x8e, 0x00, 0x11, 0x3f, 1);
        for (int address = 128; address < 256; address++) {
            x.poke(address, 0xee);
        }
        x.run(3);
        Checks.due("A of the copied frame", x.peek(128 + 105), 9);
        Checks.due("X of the copied frame", x.peek(128 + 109), 0x11);
        Checks.due("A of the caller's frame", x.peek(105), 1);
        Checks.due("CC of the new frame", x.peek(244), 128);
        Checks.due("first byte", x.peek(128), 0x32);
        Checks.due("S of the new one", x.register(1, 4), 256);
        Checks.due("S of the caller", x.register(0, 4), 116);
    }

    /** The block is copied over the caller's frame, and the answer is laid into what lies there. */
    private static void forkWithTheFrameInTheNewBlock() {
        TaskComputer x = started(0, 3, 0x10, 0xce, 0, 200, 0x8e, 0, 7, 0x3f, 1);
        Checks.pokeAll(x, 60, 0x0f, 21, 22, 23, 24, 25, 26, 27, 28, 29, 30, 31);
        x.run(3);
        Checks.due("CC of the copy loses C", x.register(0, 10), 0x0e);
        Checks.due("A", x.register(0, 8), 1);
        Checks.due("B", x.register(0, 9), 22);
        Checks.due("DP", x.register(0, 11), 23);
        Checks.due("X", x.register(0, 1), 24 * 256 + 25);
        Checks.due("PC", x.register(0, 5), 30 * 256 + 31);
        Checks.due("S", x.register(0, 4), 200);
        Checks.due("new PC", x.register(1, 5), 135);
    }

    private static void forkWithTheFrameWhereTheNewOneLies() {
        TaskComputer x = started(0, 3, 0x10, 0xce, 1, 0, 0x8e, 0, 7, 0x3f, 1);
        x.run(3);
        Checks.due("caller goes on at the new start", x.register(0, 5), 135);
        Checks.due("caller's A", x.register(0, 8), 1);
        Checks.due("the new one's A is the answer, too", x.register(1, 8), 1);
        Checks.due("X", x.register(0, 1), 0);
        Checks.due("S", x.register(0, 4), 256);
    }

    private static void sleepOfNoTicksGivesWay() {
        TaskComputer x = started(0, 3, 0x3f, 2, 0x12);
        x.start(1, 128, 4);
        x.start(2, 128, 4);
        x.run(1);
        Checks.due("state(0)", x.state(0), 2);
        Checks.due("sleeps", x.sleeps(0), 0);
        Checks.due("state(1)", x.state(1), 1);
        Checks.due("queued(0)", x.queued(0), 2);
        Checks.due("queued(1)", x.queued(1), 0);
        Checks.due("PC", x.register(0, 5), 2);
    }

    private static void sleepAlone() {
        TaskComputer x = started(0, 3, 0x3f, 2, 0x8e, 0, 2, 0x3f, 2);
        x.run(1);
        Checks.due("taken again", x.state(0), 1);
        Checks.due("CC", x.register(0, 10), 128);
        x.run(2);
        Checks.due("SLEEPING", x.state(0), 3);
        Checks.due("sleeps", x.sleeps(0), 2);
        Checks.due("none queued", x.queued(0), -1);
        Checks.due("no step", x.run(4), 0);
    }

    private static void sleepAtTheEdges() {
        int[] lengths = {1, 2, 0x7fff, 0x8000, 0xffff};
        for (int ticks : lengths) {
            TaskComputer x = started(0, 3, 0x8e, ticks >> 8, ticks & 255, 0x3f, 2);
            x.run(2);
            Checks.due("sleeps(" + ticks + ")", x.sleeps(0), ticks);
            Checks.due("state", x.state(0), 3);
            x.timer(16);
            x.run(2);
            Checks.due("one tick less", x.sleeps(0), ticks - 1);
            Checks.due("state", x.state(0), ticks == 1 ? 1 : 3);
        }
    }

    private static void exitLeavesTheNextRunning() {
        TaskComputer x = started(0, 0, 0x3f, 3);
        x.start(1, 0, 255);
        x.run(1);
        Checks.due("status 0", x.status(0), 0);
        Checks.due("FREE", x.state(0), 0);
        Checks.due("the next", x.state(1), 1);
        x.run(1);
        Checks.due("status 255", x.status(1), 255);
        Checks.due("no step", x.run(1), 0);
    }

    private static void exit() {
        TaskComputer x = started(0, 3, 0x86, 200, 0x3f, 3);
        x.run(2);
        Checks.due("state", x.state(0), 0);
        Checks.due("status", x.status(0), 200);
        Checks.due("it was stacked: A", x.peek(117), 200);
        Checks.due("it was stacked: PC", x.peek(127), 4);
    }

    private static void identity() {
        for (int t = 0; t < 4; t++) {
            TaskComputer x = started(t, 99, 0x1a, 1, 0x3f, 4);
            x.run(2);
            Checks.due("A", x.register(t, 8), t);
            Checks.due("C", x.register(t, 10), 128);
            Checks.due("runs", x.state(t), 1);
            Checks.due("frame's A", x.peek(128 * t + 117), t);
            x.poke(128 * t + 4, 0x12);
            x.run(1);
            Checks.due("it goes on", x.register(t, 5), 128 * t + 5);
        }
    }

    private static void otherCalls() {
        int[] numbers = {0, 5, 6, 127, 128, 254, 255};
        for (int number : numbers) {
            TaskComputer x = started(0, 99, 0x3f, number);
            x.run(1);
            Checks.due("A", x.register(0, 8), 99);
            Checks.due("B", x.register(0, 9), 2);
            Checks.due("CC", x.register(0, 10), 129);
            Checks.due("runs", x.state(0), 1);
            Checks.due("PC", x.register(0, 5), 2);
            Checks.due("cycles", x.cycles(), 2);
            x.poke(2, 0x12);
            x.run(1);
            Checks.due("it goes on", x.register(0, 5), 3);
        }
    }

    private static void callsHaveTwoCyclesAndLeaveAFrame() {
        TaskComputer x = started(0, 99, 0x1c, 0x6f, 0x3f, 4);
        x.timer(16);
        x.run(1);
        Checks.due("E is gone", x.register(0, 10), 0);
        x.run(1);
        Checks.due("E is back", x.register(0, 10), 128);
        Checks.due("left", x.left(), 12);
        Checks.due("frame's CC", x.peek(116), 128);
        TaskComputer y = started(0, 99, 0x1a, 0x7e, 0x3f, 4);
        y.run(2);
        Checks.due("all other bits of CC stay", y.register(0, 10), 0xfe);
    }
}
