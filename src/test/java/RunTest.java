/** Promise 7: run, and how steps of several tasks follow one another. */
public final class RunTest {
    public static void main(String[] args) {
        wrongCountsChangeNothing();
        zeroStepsDoNothing();
        countsAtTheEdges();
        endsWhenNoStepIsLeft();
        zeroStepsWithoutATask();
        allAsleepIsNoStep();
        idleIsAStepWhileTheTimerIsOn();
        nextTaskRunsInTheNextStep();
        tasksTakeTurns();
        exampleOfTheReadme();
        Checks.end();
    }

    private static TaskComputer looping() {
        TaskComputer x = new TaskComputer();
        Checks.pokeAll(x, 0, 0x20, 0xfe);
        x.start(0, 0, 0);
        return x;
    }

    private static void wrongCountsChangeNothing() {
        TaskComputer x = looping();
        x.timer(16);
        x.run(9);
        String before = Checks.pictureOf(x);
        int[] wrong = {-1, 401, Integer.MIN_VALUE, Integer.MAX_VALUE};
        for (int n : wrong) {
            Checks.due("run(" + n + ")", x.run(n), -1);
        }
        Checks.due("nothing changed", Checks.pictureOf(x).equals(before), true);
        Checks.due("run(400)", x.run(400), 400);
    }

    private static void zeroStepsDoNothing() {
        TaskComputer x = looping();
        x.timer(16);
        x.run(8);
        Checks.due("pending", x.lost(), 100000);
        String before = Checks.pictureOf(x);
        Checks.due("run(0)", x.run(0), 0);
        Checks.due("nothing changed", Checks.pictureOf(x).equals(before), true);
    }

    private static void countsAtTheEdges() {
        int[] good = {0, 1, 399, 400};
        for (int n : good) {
            TaskComputer x = looping();
            Checks.due("run(" + n + ")", x.run(n), n);
            Checks.due("cycles", x.cycles(), 2 * n);
        }
    }

    private static void zeroStepsWithoutATask() {
        TaskComputer x = new TaskComputer();
        Checks.due("run(0)", x.run(0), 0);
        x.timer(16);
        Checks.due("run(0)", x.run(0), 0);
        Checks.due("no cycles", x.cycles(), 0);
        x.run(1);
        Checks.due("run(0)", x.run(0), 0);
        Checks.due("the tick stays", x.lost(), 100000);
    }

    private static void allAsleepIsNoStep() {
        TaskComputer x = new TaskComputer();
        Checks.pokeAll(x, 0, 0x8e, 0, 1, 0x3f, 2, 0x20, 0xfe);
        x.start(0, 0, 0);
        Checks.due("two steps", x.run(400), 2);
        Checks.due("none", x.run(400), 0);
        Checks.due("cycles", x.cycles(), 5);
        x.timer(16);
        Checks.due("all", x.run(10), 10);
        Checks.due("one idle, nine of the task", x.cycles(), 5 + 16 + 18);
    }

    private static void idleIsAStepWhileTheTimerIsOn() {
        TaskComputer x = new TaskComputer();
        Checks.pokeAll(x, 0, 0x12, 0x3f, 3);
        x.start(0, 0, 0);
        x.timer(100);
        Checks.due("run", x.run(3), 3);
        Checks.due("what was left went by", x.cycles(), 100);
        Checks.due("left", x.left(), 100);
        x.timer(0);
        Checks.due("off: no step", x.run(3), 0);
        Checks.due("the tick was served", x.ticks(), 1);
        Checks.due("cycles stay", x.cycles(), 100);
    }

    private static void endsWhenNoStepIsLeft() {
        TaskComputer x = new TaskComputer();
        Checks.due("no task", x.run(10), 0);
        Checks.pokeAll(x, 0, 0x12, 0x12, 0x3f, 3);
        x.start(0, 0, 1);
        Checks.due("three steps", x.run(10), 3);
        Checks.due("cycles", x.cycles(), 4);
        x.start(0, 1, 1);
        Checks.due("exactly two", x.run(2), 2);
        Checks.due("none left", x.run(2), 0);
    }

    private static void nextTaskRunsInTheNextStep() {
        TaskComputer x = new TaskComputer();
        Checks.pokeAll(x, 0, 0x3f, 3);
        x.start(0, 0, 1);
        x.start(1, 0, 2);
        x.start(2, 3, 3);
        x.poke(3, 0x11);
        Checks.due("run", x.run(1), 1);
        Checks.due("the next is taken at once", x.state(1), 1);
        Checks.due("run", x.run(10), 2);
        Checks.due("status(0)", x.status(0), 1);
        Checks.due("status(1)", x.status(1), 2);
        Checks.due("status(2)", x.status(2), 255);
        Checks.due("cycles", x.cycles(), 5);
    }

    private static void tasksTakeTurns() {
        TaskComputer x = new TaskComputer();
        for (int t = 0; t < 3; t++) {
            Checks.pokeAll(x, 128 * t, 0x4c, 0x20, 0xfd);
            x.start(t, 128 * t, 0);
        }
        x.timer(18);
        x.run(12);
        Checks.due("A of 0", x.register(0, 8), 6);
        Checks.due("pending", x.lost(), 100000);
        x.run(12);
        Checks.due("A of 1", x.register(1, 8), 6);
        x.run(12);
        Checks.due("A of 2", x.register(2, 8), 6);
        x.run(12);
        Checks.due("A of 0 again", x.register(0, 8), 12);
        Checks.due("ticks", x.ticks(), 3);
        Checks.due("queued(0)", x.queued(0), 1);
        Checks.due("queued(1)", x.queued(1), 2);
    }

    private static void exampleOfTheReadme() {
        TaskComputer computer = new TaskComputer();
        Checks.pokeAll(computer, 0, 0x86, 5, 0x4a, 0x26, 0xfd, 0x3f, 3);
        Checks.due("start", computer.start(0, 0, 7), true);
        Checks.due("A as started", computer.register(0, 8), 7);
        Checks.due("timer", computer.timer(100), true);
        Checks.due("run", computer.run(12), 12);
        Checks.due("FREE", computer.state(0), 0);
        Checks.due("status", computer.status(0), 0);
        Checks.due("cycles", computer.cycles(), 19);
        Checks.due("left", computer.left(), 81);
    }
}
