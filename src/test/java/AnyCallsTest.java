/**
 * Runs of calls with any arguments on programs of any bytes: no call throws, two objects with the
 * same calls answer the same, and what the document says of every state holds behind each part.
 */
public final class AnyCallsTest {
    /** So that an object has 512 calls at most: 80 pokes, 75 times 3 calls, 3 times 67 checks. */
    private static final int PIECES = 20;
    private static final int PARTS = 3;
    private static final int CALLS_OF_A_PART = 25;
    private static final int RUNS = 3000;

    /** Pieces that bring tasks into many states: calls of the kernel, I, changes of X and S. */
    private static final int[][] USEFUL = {
        {0x3f, 1}, {0x3f, 2}, {0x3f, 3}, {0x3f, 4}, {0x3f, 9}, {0x8e, 0, 0}, {0x30, 1, 0x3f, 2},
        {0x30, 9, 0x3f, 2}, {0x30, 2, 0x3f, 1}, {0x1a, 16}, {0x1c, 0xef}, {0x20, 0xfc},
        {0x34, 0xff}, {0x10, 0xce, 1, 4}, {0x10, 0xce, 0, 5}, {0x12}, {0x4c}, {0xa7, 0x80},
        {0x9d, 0}
    };

    private static long seed;
    private static int period;
    private static int cycles;
    private static int ticks;

    public static void main(String[] args) {
        for (int run = 0; run < RUNS; run++) {
            seed = run + 1;
            period = 0;
            cycles = 0;
            ticks = 0;
            oneRun("run " + run);
        }
        Checks.end();
    }

    private static void oneRun(String name) {
        TaskComputer x = new TaskComputer();
        TaskComputer twin = new TaskComputer();
        boolean same = true;
        try {
            same = fill(x, twin);
            for (int part = 0; part < PARTS; part++) {
                for (int i = 0; i < CALLS_OF_A_PART; i++) {
                    same &= anyCall(x, twin);
                }
                statesAgree(name, x);
                registersAgree(name, x);
                countsAgree(name, x);
            }
        } catch (RuntimeException e) {
            Checks.due(name + " threw " + e, true, false);
        }
        Checks.due(name + ": the twin answers the same", same, true);
    }

    private static int any(int bound) {
        seed = seed * 6364136223846793005L + 1442695040888963407L;
        return (int) ((seed >>> 33) % bound);
    }

    /** Mostly an argument from 0 to most, now and then one beside it. */
    private static int anyOf(int most) {
        int[] beside = {-1, most + 1, Integer.MIN_VALUE, Integer.MAX_VALUE};
        return any(12) == 0 ? beside[any(beside.length)] : any(most + 1);
    }

    private static boolean fill(TaskComputer x, TaskComputer twin) {
        boolean same = true;
        int address = 0;
        for (int i = 0; i < PIECES; i++) {
            int[] bytes = any(4) == 0 ? new int[] {any(256), any(256)} : USEFUL[any(USEFUL.length)];
            for (int b : bytes) {
                same &= x.poke(address, b) == twin.poke(address, b);
                address++;
            }
            if (any(5) == 0) {
                address = 128 * any(4);
            }
        }
        return same;
    }

    private static boolean anyCall(TaskComputer x, TaskComputer twin) {
        int t = anyOf(3);
        int address = any(2) == 0 ? 128 * any(4) : anyOf(65535);
        int v = anyOf(255);
        switch (any(8)) {
            case 0: return x.start(t, address, v) == twin.start(t, address, v);
            case 1: return any(4) != 0 || x.stop(t) == twin.stop(t);
            case 2: return any(4) != 0 || setTimer(x, twin);
            case 3: return x.poke(address % 512, v) == twin.poke(address % 512, v);
            case 4: return x.register(t, v % 14) == twin.register(t, v % 14);
            case 5: return x.queued(t) == twin.queued(t) && x.status(t) == twin.status(t);
            default: return makeSteps(x, twin);
        }
    }

    private static boolean setTimer(TaskComputer x, TaskComputer twin) {
        int[] periods = {0, 15, 16, 17, 40, 1000, 1001, -1};
        int p = periods[any(periods.length)];
        boolean taken = x.timer(p);
        Checks.due("timer(" + p + ")", taken, p == 0 || p >= 16 && p <= 1000);
        if (taken) {
            period = p;
        }
        return taken == twin.timer(p);
    }

    private static boolean makeSteps(TaskComputer x, TaskComputer twin) {
        int n = any(3) == 0 ? anyOf(400) : any(6);
        int before = x.cycles();
        int made = x.run(n);
        int after = x.cycles();
        boolean fits = n < 0 || n > 400 ? made == -1 : made >= 0 && made <= n;
        Checks.due("run(" + n + ") answered " + made + ", that it fits", fits, true);
        Checks.due("each step has a cycle", after - before >= Math.max(made, 0), true);
        return made == twin.run(n) && after == twin.cycles();
    }

    private static void statesAgree(String name, TaskComputer x) {
        int[] count = new int[4];
        for (int t = 0; t < 4; t++) {
            int state = x.state(t);
            count[state]++;
            Checks.due(name + ": who sleeps has ticks to sleep", x.sleeps(t) >= 1, state == 3);
            Checks.due(name + ": status is a byte", x.status(t) >> 8, 0);
        }
        Checks.due(name + ": one RUNNING at most", count[1] <= 1, true);
        Checks.due(name + ": none waits while none runs", count[1] == 0 && count[2] > 0, false);
        int seen = 0;
        for (int k = 0; k < count[2]; k++) {
            int t = x.queued(k);
            Checks.due(name + ": READY at place " + k, x.state(t), 2);
            Checks.due(name + ": there once", seen >> t & 1, 0);
            seen |= 1 << t;
        }
        Checks.due(name + ": behind the last", x.queued(count[2]), -1);
    }

    private static void registersAgree(String name, TaskComputer x) {
        for (int t = 0; t < 4; t++) {
            int state = x.state(t);
            int d = x.register(t, 0);
            Checks.due(name + ": a FREE one has no registers", d == -1, state == 0);
            if (state != 0) {
                Checks.due(name + ": D", d, x.register(t, 8) * 256 + x.register(t, 9));
            }
            if (state >= 2) {
                int frame = x.register(t, 4) - 12;
                Checks.due(name + ": CC", x.register(t, 10), byteAt(x, frame));
                Checks.due(name + ": A", x.register(t, 8), byteAt(x, frame + 1));
                Checks.due(name + ": PC, low", x.register(t, 5) & 255, byteAt(x, frame + 11));
            }
        }
    }

    private static int byteAt(TaskComputer x, int address) {
        return Math.max(x.peek(address & 0xffff), 0);
    }

    private static void countsAgree(String name, TaskComputer x) {
        int left = x.left();
        int passed = x.cycles();
        int served = x.ticks();
        int lost = x.lost();
        int over = lost % 100000 + lost / 100000 + served;
        Checks.due(name + ": LEFT 0 if off", left == 0, period == 0);
        Checks.due(name + ": LEFT within the period", left >= 0 && left <= period, true);
        Checks.due(name + ": cycles never less", passed >= cycles, true);
        Checks.due(name + ": ticks never less", served >= ticks, true);
        Checks.due(name + ": no two ticks within 16 cycles", over * 16 <= passed, true);
        cycles = passed;
        ticks = served;
    }
}
