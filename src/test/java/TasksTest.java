/** Promises 4, 5, 8, 9, 10 and 12: start and stop, and what is told of tasks and the queue. */
public final class TasksTest {
    public static void main(String[] args) {
        startedTaskRunsAtOnce();
        startLaysAFrame();
        laterTasksQueue();
        startRunsAtOnceBesideSleepers();
        startsAtTheEdges();
        wrongStartsChangeNothing();
        aSleepingTaskIsNotStarted();
        fullAndEmptyQueue();
        stopTakesTheNext();
        stopOfTheOnlyTask();
        stopBesideSleepers();
        stopStoresNothing();
        stopOfReadyAndSleeping();
        stoppedSleeperIsNotWoken();
        wrongStopsChangeNothing();
        statusOutlivesAStart();
        statusesOfAllEnds();
        registersOfAllStates();
        registersOfAnEndedTask();
        wrongQuestions();
        Checks.end();
    }

    private static void startedTaskRunsAtOnce() {
        for (int t = 0; t < 4; t++) {
            TaskComputer x = new TaskComputer();
            Checks.due("start", x.start(t, 65535, 255), true);
            Checks.due("state", x.state(t), 1);
            Checks.due("queued", x.queued(0), -1);
            Checks.due("D", x.register(t, 0), 255 * 256);
            Checks.due("X", x.register(t, 1), 0);
            Checks.due("Y", x.register(t, 2), 0);
            Checks.due("U", x.register(t, 3), 0);
            Checks.due("S", x.register(t, 4), 128 * t + 128);
            Checks.due("PC", x.register(t, 5), 65535);
            Checks.due("A", x.register(t, 8), 255);
            Checks.due("B", x.register(t, 9), 0);
            Checks.due("CC", x.register(t, 10), 128);
            Checks.due("DP", x.register(t, 11), 0);
            Checks.due("no cycles", x.cycles(), 0);
        }
    }

    private static void startLaysAFrame() {
        TaskComputer x = new TaskComputer();
        for (int address = 480; address < 512; address++) {
            x.poke(address, 99);
        }
        x.start(3, 0x1234, 7);
        int[] frame = {128, 7, 0, 0, 0, 0, 0, 0, 0, 0, 0x12, 0x34};
        for (int i = 0; i < 12; i++) {
            Checks.due("frame byte " + i, x.peek(500 + i), frame[i]);
        }
        Checks.due("below the frame", x.peek(499), 99);
        startForgetsWhatWasAsked();
    }

    private static void startForgetsWhatWasAsked() {
        TaskComputer x = new TaskComputer();
        x.start(0, 0, 0);
        x.start(1, 0, 0);
        Checks.pokeAll(x, 244, 0x0f, 1, 2, 3, 4, 5, 6, 7, 8, 9, 10, 11);
        Checks.due("X of task 1", x.register(1, 1), 0x0405);
        x.start(2, 0x1234, 7);
        int[] wanted = {0x0700, 0, 0, 0, 384, 0x1234, -1, -1, 7, 0, 128, 0};
        for (int k = 0; k < 12; k++) {
            Checks.due("register " + k, x.register(2, k), wanted[k]);
        }
    }

    private static void laterTasksQueue() {
        TaskComputer x = new TaskComputer();
        x.start(2, 1, 0);
        x.start(0, 2, 0);
        x.start(3, 3, 0);
        x.start(1, 4, 0);
        Checks.due("state(2)", x.state(2), 1);
        Checks.due("state(0)", x.state(0), 2);
        Checks.due("queued(0)", x.queued(0), 0);
        Checks.due("queued(1)", x.queued(1), 3);
        Checks.due("queued(2)", x.queued(2), 1);
        Checks.due("queued(3)", x.queued(3), -1);
        Checks.due("queued(-1)", x.queued(-1), -1);
        Checks.due("queued(4)", x.queued(4), -1);
        Checks.due("queued(MAX)", x.queued(Integer.MAX_VALUE), -1);
        Checks.due("queued(MIN)", x.queued(Integer.MIN_VALUE), -1);
        Checks.due("start again", x.start(0, 2, 0), false);
        Checks.due("start again", x.start(2, 2, 0), false);
    }

    /** Tasks with these numbers that all sleep for two ticks. */
    private static TaskComputer sleeping(int... numbers) {
        TaskComputer x = new TaskComputer();
        Checks.pokeAll(x, 0, 0x8e, 0, 2, 0x3f, 2, 0x12, 0x20, 0xfe);
        for (int t : numbers) {
            x.start(t, 0, t);
        }
        Checks.due("fall asleep", x.run(2 * numbers.length), 2 * numbers.length);
        for (int t : numbers) {
            Checks.due("SLEEPING", x.state(t), 3);
        }
        return x;
    }

    private static void startRunsAtOnceBesideSleepers() {
        TaskComputer x = sleeping(0, 1);
        Checks.due("start", x.start(3, 7, 1), true);
        Checks.due("RUNNING at once", x.state(3), 1);
        Checks.due("not queued", x.queued(0), -1);
        x.start(2, 7, 1);
        Checks.due("the next is READY", x.state(2), 2);
        Checks.due("queued", x.queued(0), 2);
    }

    private static void startsAtTheEdges() {
        TaskComputer x = new TaskComputer();
        Checks.due("all least", x.start(0, 0, 0), true);
        Checks.due("all most", x.start(3, 65535, 255), true);
        Checks.due("PC", x.register(3, 5), 65535);
        Checks.due("A", x.register(3, 8), 255);
        Checks.due("S", x.register(3, 4), 512);
        Checks.due("its frame's end", x.peek(511), 255);
        Checks.due("its frame's CC", x.peek(500), 128);
    }

    private static void aSleepingTaskIsNotStarted() {
        TaskComputer x = sleeping(1);
        String before = Checks.pictureOf(x);
        Checks.due("start", x.start(1, 0, 0), false);
        Checks.due("nothing changed", Checks.pictureOf(x).equals(before), true);
        Checks.due("it sleeps on", x.sleeps(1), 2);
    }

    private static void fullAndEmptyQueue() {
        TaskComputer x = new TaskComputer();
        Checks.due("empty", x.queued(0), -1);
        x.start(3, 0, 0);
        Checks.due("the RUNNING one is not in it", x.queued(0), -1);
        x.start(2, 0, 0);
        x.start(1, 0, 0);
        x.start(0, 0, 0);
        int[] wanted = {2, 1, 0, -1};
        for (int k = 0; k < 4; k++) {
            Checks.due("queued(" + k + ")", x.queued(k), wanted[k]);
        }
        for (int t = 0; t < 4; t++) {
            Checks.due("none can be started", x.start(t, 0, 0), false);
        }
        x.stop(3);
        Checks.due("moved up", x.queued(0), 1);
        Checks.due("moved up", x.queued(1), 0);
        Checks.due("shorter", x.queued(2), -1);
    }

    private static void wrongStartsChangeNothing() {
        TaskComputer x = new TaskComputer();
        x.start(0, 10, 1);
        x.start(1, 10, 1);
        String before = Checks.pictureOf(x);
        Checks.due("no task MIN", x.start(Integer.MIN_VALUE, 0, 0), false);
        Checks.due("address MIN", x.start(2, Integer.MIN_VALUE, 0), false);
        Checks.due("address MAX", x.start(2, Integer.MAX_VALUE, 0), false);
        Checks.due("a MIN", x.start(2, 0, Integer.MIN_VALUE), false);
        Checks.due("a MAX", x.start(2, 0, Integer.MAX_VALUE), false);
        Checks.due("no task -1", x.start(-1, 0, 0), false);
        Checks.due("no task 4", x.start(4, 0, 0), false);
        Checks.due("no task MAX", x.start(Integer.MAX_VALUE, 0, 0), false);
        Checks.due("address -1", x.start(2, -1, 0), false);
        Checks.due("address 65536", x.start(2, 65536, 0), false);
        Checks.due("a -1", x.start(2, 0, -1), false);
        Checks.due("a 256", x.start(2, 0, 256), false);
        Checks.due("RUNNING", x.start(0, 0, 0), false);
        Checks.due("READY", x.start(1, 0, 0), false);
        Checks.due("nothing changed", Checks.pictureOf(x).equals(before), true);
    }

    private static void stopTakesTheNext() {
        TaskComputer x = new TaskComputer();
        x.start(0, 10, 1);
        x.start(1, 20, 2);
        x.start(2, 30, 3);
        Checks.due("stop(0)", x.stop(0), true);
        Checks.due("state(0)", x.state(0), 0);
        Checks.due("status(0)", x.status(0), 254);
        Checks.due("state(1)", x.state(1), 1);
        Checks.due("PC", x.register(1, 5), 20);
        Checks.due("queued(0)", x.queued(0), 2);
        Checks.due("queued(1)", x.queued(1), -1);
        Checks.due("stop(0) again", x.stop(0), false);
    }

    private static void stopOfTheOnlyTask() {
        TaskComputer x = new TaskComputer();
        x.start(2, 10, 1);
        Checks.due("stop", x.stop(2), true);
        Checks.due("FREE", x.state(2), 0);
        Checks.due("no step", x.run(3), 0);
        Checks.due("no cycles", x.cycles(), 0);
        Checks.due("start anew", x.start(2, 20, 3), true);
        Checks.due("RUNNING", x.state(2), 1);
        Checks.due("PC", x.register(2, 5), 20);
    }

    private static void stopBesideSleepers() {
        TaskComputer x = sleeping(0, 1);
        x.start(2, 10, 1);
        x.stop(2);
        Checks.due("sleepers are not taken", x.state(0), 3);
        Checks.due("no step", x.run(3), 0);
    }

    /** Neither the one that is stopped is stacked, nor does the taken one leave its frame. */
    private static void stopStoresNothing() {
        TaskComputer x = new TaskComputer();
        Checks.pokeAll(x, 0, 0x86, 99, 0x20, 0xfe);
        x.start(0, 0, 5);
        x.start(1, 0, 6);
        x.run(2);
        int cycles = x.cycles();
        x.stop(0);
        Checks.due("A of the frame at its start", x.peek(117), 5);
        Checks.due("PC of the frame at its start", x.peek(127), 0);
        Checks.due("A of the frame that was taken", x.peek(245), 6);
        Checks.due("CC of the frame that was taken", x.peek(244), 128);
        Checks.due("no cycles", x.cycles(), cycles);
        Checks.due("S", x.register(1, 4), 256);
    }

    private static void stoppedSleeperIsNotWoken() {
        TaskComputer x = sleeping(0, 1);
        x.stop(0);
        x.timer(16);
        x.run(3);
        Checks.due("ticks", x.ticks(), 2);
        Checks.due("the other runs", x.state(1), 1);
        Checks.due("the stopped one is FREE", x.state(0), 0);
        Checks.due("none queued", x.queued(0), -1);
        x.start(0, 10, 0);
        Checks.due("no sleep is left of before", x.sleeps(0), 0);
        Checks.due("READY", x.state(0), 2);
    }

    private static void stopOfReadyAndSleeping() {
        TaskComputer x = new TaskComputer();
        Checks.pokeAll(x, 0, 0x8e, 0, 3, 0x3f, 2);
        x.start(0, 0, 0);
        x.run(2);
        Checks.due("sleeps", x.state(0), 3);
        x.start(1, 10, 0);
        x.start(2, 10, 0);
        x.start(3, 10, 0);
        Checks.due("stop READY", x.stop(2), true);
        Checks.due("queued(0)", x.queued(0), 3);
        Checks.due("queued(1)", x.queued(1), -1);
        Checks.due("RUNNING stays", x.state(1), 1);
        Checks.due("stop SLEEPING", x.stop(0), true);
        Checks.due("sleeps no more", x.sleeps(0), 0);
        Checks.due("state", x.state(0), 0);
        Checks.due("status", x.status(0), 254);
        Checks.due("start anew", x.start(0, 10, 0), true);
        Checks.due("queued(1)", x.queued(1), 0);
    }

    private static void wrongStopsChangeNothing() {
        TaskComputer x = new TaskComputer();
        x.start(0, 10, 1);
        String before = Checks.pictureOf(x);
        int[] none = {-1, 4, 1, Integer.MIN_VALUE, Integer.MAX_VALUE};
        for (int t : none) {
            Checks.due("stop(" + t + ")", x.stop(t), false);
        }
        Checks.due("nothing changed", Checks.pictureOf(x).equals(before), true);
    }

    private static void statusOutlivesAStart() {
        TaskComputer x = new TaskComputer();
        Checks.pokeAll(x, 0, 0x3f, 3);
        x.start(0, 0, 33);
        Checks.due("before any end", x.status(0), 0);
        x.run(1);
        Checks.due("EXIT", x.status(0), 33);
        x.start(0, 0, 34);
        Checks.due("started since", x.status(0), 33);
        x.run(1);
        Checks.due("EXIT again", x.status(0), 34);
        x.poke(0, 0x11);
        x.start(0, 0, 34);
        x.run(1);
        Checks.due("INVALID", x.status(0), 255);
        Checks.due("others", x.status(1), 0);
    }

    private static void statusesOfAllEnds() {
        int[] statuses = {0, 1, 254, 255};
        for (int a : statuses) {
            TaskComputer x = new TaskComputer();
            Checks.pokeAll(x, 0, 0x3f, 3);
            x.start(3, 0, a);
            x.run(1);
            Checks.due("EXIT", x.status(3), a);
        }
        TaskComputer x = sleeping(0);
        x.start(1, 10, 0);
        x.start(2, 10, 0);
        for (int t = 0; t < 3; t++) {
            x.stop(t);
            Checks.due("stopped", x.status(t), 254);
            Checks.due("stop again", x.stop(t), false);
            Checks.due("status stays", x.status(t), 254);
        }
        Checks.due("never started", x.status(3), 0);
    }

    private static void registersOfAnEndedTask() {
        TaskComputer x = new TaskComputer();
        Checks.pokeAll(x, 0, 0x3f, 3);
        x.start(0, 0, 5);
        x.run(1);
        for (int k = -1; k <= 12; k++) {
            Checks.due("register(0, " + k + ") of a FREE task", x.register(0, k), -1);
        }
    }

    private static void registersOfAllStates() {
        TaskComputer x = new TaskComputer();
        x.start(0, 0, 0);
        x.start(1, 0, 0);
        Checks.pokeAll(x, 244, 0x61, 1, 2, 3, 4, 5, 6, 7, 8, 9, 10, 11);
        int[] wanted = {0x0102, 0x0405, 0x0607, 0x0809, 256, 0x0a0b, -1, -1, 1, 2, 0x61, 3};
        for (int k = 0; k < 12; k++) {
            Checks.due("READY " + k, x.register(1, k), wanted[k]);
        }
        x.stop(0);
        for (int k = 0; k < 12; k++) {
            Checks.due("RUNNING " + k, x.register(1, k), wanted[k]);
        }
        sleepingOneIsToldByItsFrame();
    }

    private static void sleepingOneIsToldByItsFrame() {
        TaskComputer x = new TaskComputer();
        Checks.pokeAll(x, 0, 0x8e, 0, 3, 0x3f, 2);
        x.start(0, 0, 5);
        x.run(2);
        Checks.due("state", x.state(0), 3);
        Checks.due("X", x.register(0, 1), 3);
        Checks.due("S", x.register(0, 4), 128);
        Checks.due("PC", x.register(0, 5), 5);
        x.poke(117, 50);
        Checks.due("A", x.register(0, 8), 50);
    }

    private static void wrongQuestions() {
        TaskComputer x = new TaskComputer();
        x.start(0, 0, 0);
        int[] none = {-1, 4, Integer.MIN_VALUE, Integer.MAX_VALUE};
        for (int t : none) {
            Checks.due("state", x.state(t), -1);
            Checks.due("register", x.register(t, 0), -1);
            Checks.due("status", x.status(t), -1);
            Checks.due("sleeps", x.sleeps(t), 0);
        }
        int[] noRegister = {-1, 6, 7, 12, 13, Integer.MIN_VALUE, Integer.MAX_VALUE};
        for (int k : noRegister) {
            Checks.due("register(0, " + k + ")", x.register(0, k), -1);
        }
        Checks.due("a FREE one", x.register(1, 0), -1);
    }
}
