/** Promises 6, 11 and 13 to 16: the timer, sleeping, and what is counted. */
public final class TimerTest {
    public static void main(String[] args) {
        periods();
        wrongPeriodsChangeNothing();
        setAnewWhileOn();
        tickComesWhenCyclesAreUp();
        tickIsServedBeforeTheNextInstruction();
        maskedTicksAreLost();
        pendingTickOutlivesTheTimer();
        idleStepsPassLeft();
        leftAtTheEdgesOfATick();
        maskedWhileTheTimerIsOff();
        tickOfTheStepThatMasks();
        maskOfATaskThatGaveWay();
        tickAloneStacksAndTakes();
        tickWithoutAnyTask();
        offBeforeItsTick();
        sleepersWakeInOrder();
        sleepersOfManyLengths();
        tickOfTheSleepCall();
        sleepCountsDown();
        sleepsOfOthersAreZero();
        cyclesGoByWithTheTimerOff();
        Checks.end();
    }

    private static void periods() {
        TaskComputer x = new TaskComputer();
        int[] good = {16, 17, 999, 1000, 0};
        for (int p : good) {
            Checks.due("timer(" + p + ")", x.timer(p), true);
            Checks.due("left", x.left(), p);
        }
    }

    private static void wrongPeriodsChangeNothing() {
        TaskComputer x = new TaskComputer();
        x.timer(50);
        String before = Checks.pictureOf(x);
        int[] wrong = {15, 1, -1, -16, 1001, Integer.MIN_VALUE, Integer.MAX_VALUE};
        for (int p : wrong) {
            Checks.due("timer(" + p + ")", x.timer(p), false);
        }
        Checks.due("nothing changed", Checks.pictureOf(x).equals(before), true);
    }

    /** A task that does nothing but instructions of one cycle. */
    private static TaskComputer withNothings(int firstByte, int secondByte) {
        TaskComputer x = new TaskComputer();
        for (int address = 0; address < 100; address++) {
            x.poke(address, 0x12);
        }
        Checks.pokeAll(x, 0, firstByte, secondByte);
        x.start(0, 0, 0);
        return x;
    }

    private static void setAnewWhileOn() {
        TaskComputer x = withNothings(0x12, 0x12);
        x.timer(20);
        x.run(5);
        Checks.due("left", x.left(), 15);
        x.timer(20);
        Checks.due("left anew", x.left(), 20);
        Checks.due("cycles stay", x.cycles(), 5);
        x.run(20);
        Checks.due("pending", x.lost(), 100000);
        x.timer(100);
        Checks.due("pending stays", x.lost(), 100000);
        x.run(1);
        Checks.due("counted", x.ticks(), 1);
        x.timer(0);
        Checks.due("counted stays", x.ticks(), 1);
    }

    private static void tickComesWhenCyclesAreUp() {
        TaskComputer x = withNothings(0x12, 0x12);
        x.timer(16);
        x.run(15);
        Checks.due("left before", x.left(), 1);
        Checks.due("none pending", x.lost(), 0);
        x.run(1);
        Checks.due("left at the tick", x.left(), 16);
        Checks.due("pending", x.lost(), 100000);
        Checks.due("not served yet", x.ticks(), 0);
        x.run(1);
        Checks.due("served", x.ticks(), 1);
        Checks.due("pending no more", x.lost(), 0);
        TaskComputer y = withNothings(0x34, 0xff);
        y.timer(16);
        y.run(1);
        Checks.due("push of all takes 14", y.left(), 2);
        y.poke(2, 0x34);
        y.poke(3, 0xff);
        y.run(1);
        Checks.due("the overrun is kept", y.left(), 4);
        Checks.due("cycles", y.cycles(), 28);
    }

    private static void tickIsServedBeforeTheNextInstruction() {
        TaskComputer x = withNothings(0x12, 0x12);
        x.start(1, 10, 0);
        x.timer(16);
        x.run(16);
        Checks.due("task 0 still runs", x.state(0), 1);
        x.run(0);
        Checks.due("run(0) serves nothing", x.ticks(), 0);
        x.run(1);
        Checks.due("task 0 is READY", x.state(0), 2);
        Checks.due("its PC", x.register(0, 5), 16);
        Checks.due("its frame's E", x.peek(116), 128);
        Checks.due("its frame's PC", x.peek(127), 16);
        Checks.due("task 1 runs", x.state(1), 1);
        Checks.due("task 1 did one", x.register(1, 5), 11);
        Checks.due("queue", x.queued(0), 0);
    }

    private static void maskedTicksAreLost() {
        TaskComputer x = withNothings(0x1a, 16);
        x.timer(16);
        x.run(15);
        Checks.due("pending", x.lost(), 100000);
        x.run(16);
        Checks.due("one lost", x.lost(), 100001);
        x.run(16);
        Checks.due("two lost", x.lost(), 100002);
        Checks.due("none served", x.ticks(), 0);
        x.poke(x.register(0, 5), 0x1c);
        x.poke(x.register(0, 5) + 1, 0xef);
        x.run(1);
        Checks.due("not yet: I was 1 as the step began", x.ticks(), 0);
        x.run(1);
        Checks.due("served", x.ticks(), 1);
        Checks.due("lost stay", x.lost(), 2);
        onlyIMasks();
    }

    private static void onlyIMasks() {
        TaskComputer x = withNothings(0x1a, 0xef);
        x.timer(16);
        x.run(16);
        Checks.due("CC", x.register(0, 10), 0xef);
        Checks.due("served", x.ticks(), 1);
        TaskComputer y = new TaskComputer();
        Checks.pokeAll(y, 0, 0x1a, 16, 0x20, 0xfe);
        y.start(0, 0, 0);
        y.timer(16);
        y.run(8);
        Checks.due("pending", y.lost(), 100000);
        y.stop(0);
        y.run(1);
        Checks.due("served when none is RUNNING", y.ticks(), 1);
    }

    private static void pendingTickOutlivesTheTimer() {
        TaskComputer x = new TaskComputer();
        Checks.pokeAll(x, 0, 0x8e, 0, 1, 0x3f, 2, 0x86, 9);
        x.start(0, 0, 0);
        x.run(2);
        Checks.due("sleeps", x.sleeps(0), 1);
        x.timer(16);
        x.run(1);
        Checks.due("idle", x.lost(), 100000);
        x.timer(0);
        Checks.due("left", x.left(), 0);
        Checks.due("pending stays", x.lost(), 100000);
        Checks.due("run", x.run(1), 1);
        Checks.due("woken and run", x.register(0, 8), 9);
        Checks.due("ticks", x.ticks(), 1);
        servedThoughNoStep();
    }

    private static void servedThoughNoStep() {
        TaskComputer x = new TaskComputer();
        Checks.pokeAll(x, 0, 0x8e, 0, 2, 0x3f, 2);
        x.start(0, 0, 0);
        x.run(2);
        x.timer(16);
        x.run(1);
        x.timer(0);
        Checks.due("run(0)", x.run(0), 0);
        Checks.due("run(0) serves none", x.ticks(), 0);
        Checks.due("no step", x.run(5), 0);
        Checks.due("served all the same", x.ticks(), 1);
        Checks.due("pending no more", x.lost(), 0);
        Checks.due("one less to sleep", x.sleeps(0), 1);
        Checks.due("no step again", x.run(5), 0);
        Checks.due("nothing to serve", x.ticks(), 1);
    }

    private static void idleStepsPassLeft() {
        TaskComputer x = new TaskComputer();
        x.timer(1000);
        Checks.due("run", x.run(400), 400);
        Checks.due("cycles", x.cycles(), 400000);
        Checks.due("ticks", x.ticks(), 399);
        Checks.due("lost", x.lost(), 100000);
        Checks.due("left", x.left(), 1000);
    }

    private static void leftAtTheEdgesOfATick() {
        int[] periods = {16, 17, 1000};
        for (int p : periods) {
            TaskComputer x = new TaskComputer();
            Checks.pokeAll(x, 0, 0x4c, 0x20, 0xfd);
            x.start(0, 0, 0);
            x.timer(p);
            int due = p;
            for (int step = 1; step <= 60; step++) {
                x.run(1);
                due -= step % 2 == 1 ? 1 : 2;
                due = due <= 0 ? due + p : due;
                Checks.due("left of " + p, x.left(), due);
            }
            Checks.due("cycles", x.cycles(), 90);
            Checks.due("lost", x.lost() % 100000, 0);
        }
    }

    private static void maskedWhileTheTimerIsOff() {
        TaskComputer x = withNothings(0x1a, 16);
        x.timer(16);
        x.run(15);
        x.timer(0);
        x.run(50);
        Checks.due("none is lost while it is off", x.lost(), 100000);
        Checks.due("none is served", x.ticks(), 0);
        x.timer(16);
        Checks.due("still pending", x.lost(), 100000);
        x.run(16);
        Checks.due("one is lost", x.lost(), 100001);
    }

    /** I is set by the very instruction with which the tick comes: it is not served. */
    private static void tickOfTheStepThatMasks() {
        TaskComputer x = withNothings(0x12, 0x12);
        x.poke(14, 0x1a);
        x.poke(15, 16);
        x.timer(16);
        x.run(15);
        Checks.due("pending", x.lost(), 100000);
        x.run(5);
        Checks.due("not served", x.ticks(), 0);
        Checks.due("pending", x.lost(), 100000);
        Checks.due("RUNNING", x.state(0), 1);
    }

    /** The I of a READY task does not count: the RUNNING one has I = 0. */
    private static void maskOfATaskThatGaveWay() {
        TaskComputer x = new TaskComputer();
        Checks.pokeAll(x, 0, 0x1a, 16, 0x12, 0x12, 0x3f, 2, 0x12, 0x12);
        Checks.pokeAll(x, 128, 0x20, 0xfe);
        x.start(0, 0, 0);
        x.start(1, 128, 0);
        x.timer(16);
        x.run(4);
        Checks.due("it gave way", x.state(0), 2);
        Checks.due("left", x.left(), 10);
        x.run(5);
        Checks.due("pending", x.lost(), 100000);
        x.run(1);
        Checks.due("served", x.ticks(), 1);
        Checks.due("the one with I runs", x.state(0), 1);
        Checks.due("its I", x.register(0, 10), 128 + 16);
        x.run(2);
        Checks.due("no tick is served meanwhile", x.ticks(), 1);
    }

    private static void tickAloneStacksAndTakes() {
        TaskComputer x = withNothings(0x12, 0x12);
        x.timer(16);
        x.run(17);
        Checks.due("RUNNING again", x.state(0), 1);
        Checks.due("none queued", x.queued(0), -1);
        Checks.due("frame's PC", x.peek(127), 16);
        Checks.due("went on", x.register(0, 5), 17);
        Checks.due("S", x.register(0, 4), 128);
        Checks.due("stacking takes no cycles", x.cycles(), 17);
    }

    private static void tickWithoutAnyTask() {
        TaskComputer x = new TaskComputer();
        x.timer(16);
        Checks.due("run", x.run(1), 1);
        Checks.due("pending", x.lost(), 100000);
        Checks.due("not served", x.ticks(), 0);
        Checks.due("run", x.run(1), 1);
        Checks.due("served, and the next is pending", x.lost(), 100000);
        Checks.due("served", x.ticks(), 1);
        Checks.due("none lost", x.lost() % 100000, 0);
        Checks.due("cycles", x.cycles(), 32);
        x.start(0, 0, 5);
        Checks.due("a start serves none", x.ticks(), 1);
        x.run(1);
        Checks.due("the next step does", x.ticks(), 2);
    }

    private static void offBeforeItsTick() {
        TaskComputer x = withNothings(0x12, 0x12);
        x.timer(16);
        x.run(15);
        x.timer(0);
        Checks.due("left", x.left(), 0);
        x.run(20);
        Checks.due("no tick", x.lost(), 0);
        Checks.due("left stays", x.left(), 0);
        x.timer(17);
        Checks.due("left is whole", x.left(), 17);
    }

    private static void sleepersOfManyLengths() {
        TaskComputer x = new TaskComputer();
        int[] lengths = {2, 1, 3, 1};
        for (int t = 3; t >= 0; t--) {
            Checks.pokeAll(x, 128 * t, 0x8e, 0, lengths[t], 0x3f, 2, 0x20, 0xfe);
            x.start(t, 128 * t, 0);
        }
        x.run(8);
        x.timer(1000);
        x.run(1);
        Checks.due("all sleep on", x.sleeps(0) + x.sleeps(1) + x.sleeps(2) + x.sleeps(3), 7);
        x.run(1);
        int[] rest = {1, 0, 2, 0};
        int[] states = {3, 1, 3, 2};
        for (int t = 0; t < 4; t++) {
            Checks.due("sleeps(" + t + ")", x.sleeps(t), rest[t]);
            Checks.due("state(" + t + ")", x.state(t), states[t]);
        }
        Checks.due("queued(0)", x.queued(0), 3);
        Checks.due("queued(1)", x.queued(1), -1);
    }

    /** The cycles of the call go by when the task sleeps already: their tick counts for it. */
    private static void tickOfTheSleepCall() {
        TaskComputer x = withNothings(0x12, 0x12);
        Checks.pokeAll(x, 11, 0x8e, 0, 1, 0x3f, 2);
        x.timer(16);
        x.run(13);
        Checks.due("asleep", x.sleeps(0), 1);
        Checks.due("pending", x.lost(), 100000);
        Checks.due("cycles", x.cycles(), 16);
        x.run(1);
        Checks.due("awake", x.state(0), 1);
        Checks.due("it went on", x.cycles(), 17);
        Checks.due("ticks", x.ticks(), 1);
    }

    private static void sleepsOfOthersAreZero() {
        TaskComputer x = withNothings(0x12, 0x12);
        x.start(1, 10, 0);
        int[] numbers = {0, 1, 2, 3, 4, -1, Integer.MIN_VALUE, Integer.MAX_VALUE};
        for (int t : numbers) {
            Checks.due("sleeps(" + t + ")", x.sleeps(t), 0);
        }
    }

    private static void sleepersWakeInOrder() {
        TaskComputer x = new TaskComputer();
        for (int t = 0; t < 4; t++) {
            Checks.pokeAll(x, 128 * t, 0x8e, 0, 1, 0x3f, 2, 0x12, 0x12);
        }
        x.start(3, 384, 0);
        x.start(1, 128, 0);
        x.start(2, 256, 0);
        x.run(6);
        Checks.due("all sleep", x.sleeps(1) + x.sleeps(2) + x.sleeps(3), 3);
        x.poke(0, 0x20);
        x.poke(1, 0xfe);
        x.start(0, 0, 0);
        x.timer(16);
        x.run(9);
        Checks.due("the lowest runs", x.state(1), 1);
        Checks.due("then the next", x.queued(0), 2);
        Checks.due("then the highest", x.queued(1), 3);
        Checks.due("behind them the one that ran", x.queued(2), 0);
    }

    private static void sleepCountsDown() {
        TaskComputer x = new TaskComputer();
        Checks.pokeAll(x, 0, 0x8e, 0, 3, 0x3f, 2);
        x.start(0, 0, 0);
        x.timer(1000);
        x.run(2);
        Checks.due("sleeps", x.sleeps(0), 3);
        for (int rest = 3; rest >= 1; rest--) {
            x.run(1);
            Checks.due("the tick of this step is pending", x.lost(), 100000);
            Checks.due("sleeps", x.sleeps(0), rest);
            Checks.due("state", x.state(0), 3);
        }
        x.run(1);
        Checks.due("awake", x.sleeps(0), 0);
        Checks.due("runs", x.state(0), 1);
        Checks.due("ticks", x.ticks(), 3);
        longestSleep();
    }

    private static void longestSleep() {
        TaskComputer x = new TaskComputer();
        Checks.pokeAll(x, 0, 0x8e, 255, 255, 0x3f, 2);
        x.start(0, 0, 0);
        x.run(2);
        Checks.due("sleeps", x.sleeps(0), 65535);
    }

    private static void cyclesGoByWithTheTimerOff() {
        TaskComputer x = withNothings(0x12, 0x12);
        x.run(50);
        Checks.due("cycles", x.cycles(), 50);
        Checks.due("ticks", x.ticks(), 0);
        Checks.due("lost", x.lost(), 0);
        Checks.due("left", x.left(), 0);
    }
}
