import java.util.Arrays;

/** Promise 7: what is INVALID, and that it stores nothing, takes one cycle and ends the task. */
public final class InvalidTest {
    public static void main(String[] args) {
        firstBytes();
        secondPage();
        indexedForms();
        immediateStores();
        registerNumbers();
        nothingIsStored();
        theNextTaskRuns();
        theLastTaskEnds();
        oneCycleOfTheTimer();
        Checks.end();
    }

    private static boolean isIn(int value, int... values) {
        for (int each : values) {
            if (each == value) {
                return true;
            }
        }
        return false;
    }

    private static boolean isInvalidFirst(int op) {
        int kind = op & 15;
        switch (op >> 4) {
            case 0:
            case 6:
            case 7: return isIn(kind, 1, 2, 5, 11);
            case 4:
            case 5: return isIn(kind, 1, 2, 5, 11, 14);
            case 1: return !isIn(kind, 0, 2, 10, 12, 13, 14, 15);
            case 2: return false;
            case 3: return isIn(kind, 8, 11, 12, 14);
            default: return isIn(op, 0x87, 0x8f, 0xc7, 0xcd, 0xcf);
        }
    }

    private static void firstBytes() {
        for (int op = 0; op < 256; op++) {
            Bench bench = new Bench("op " + op);
            if (op == 0x10) {
                bench.does(op, 0x8e);
            } else if (op == 0x3f) {
                bench.does(op, 4);
            } else {
                bench.does(op, 0, 0);
            }
            if (isInvalidFirst(op)) {
                bench.isInvalid();
            } else {
                bench.isValid();
            }
        }
    }

    private static void secondPage() {
        for (int op = 0; op < 256; op++) {
            boolean lower = op >= 0x80 && op < 0xc0 && isIn(op & 15, 3, 12, 14, 15);
            boolean upper = op >= 0xc0 && isIn(op & 15, 14, 15);
            boolean immediateStore = op == 0x8f || op == 0xcf;
            Bench bench = new Bench("0x10, " + op).does(0x10, op, 0, 0);
            if ((lower || upper) && !immediateStore) {
                bench.isValid();
            } else {
                bench.isInvalid();
            }
        }
    }

    private static void indexedForms() {
        for (int op = 0; op < 256; op++) {
            int high = op >> 4;
            boolean address = op >= 0x30 && op <= 0x33;
            if (address || isIn(high, 6, 10, 14) && !isInvalidFirst(op)) {
                formsOf(op);
            }
        }
        int[] second = {0xa3, 0xac, 0xae, 0xaf, 0xee, 0xef};
        for (int op : second) {
            formsOf(0x10, op);
        }
    }

    private static void formsOf(int... ops) {
        for (int p = 0; p < 256; p++) {
            int form = p & 15;
            boolean indirect = (p & 16) != 0;
            boolean invalid = p >= 128 && (isIn(form, 7, 10, 14)
                    || indirect && isIn(form, 0, 2) || !indirect && form == 15);
            int[] code = Arrays.copyOf(ops, ops.length + 3);
            code[ops.length] = p;
            Bench bench = new Bench("ops " + Arrays.toString(ops) + ", p " + p).does(code);
            if (invalid) {
                bench.isInvalid();
            } else {
                bench.isValid();
            }
        }
    }

    private static void immediateStores() {
        int[][] codes = {{0x87, 0}, {0x8f, 0, 0}, {0xc7, 0}, {0xcd, 0, 0}, {0xcf, 0, 0},
            {0x10, 0x8f, 0, 0}, {0x10, 0xcf, 0, 0}};
        for (int[] code : codes) {
            Bench bench = new Bench("store " + Arrays.toString(code)).with(Bench.D, 0x1234)
                    .with(Bench.X, 0x5678).with(Bench.Y, 0x5678).with(Bench.U, 0x5678).does(code);
            bench.isInvalid();
            for (int i = 0; i < code.length; i++) {
                bench.holds(Bench.CODE + i, code[i]);
            }
        }
    }

    private static void registerNumbers() {
        for (int digits = 0; digits < 256; digits++) {
            int first = digits >> 4;
            int second = digits & 15;
            boolean words = first <= 5 && second <= 5;
            boolean bytes = first >= 8 && first <= 11 && second >= 8 && second <= 11;
            for (int op = 0x1e; op <= 0x1f; op++) {
                Bench bench = new Bench("op " + op + ", " + digits).does(op, digits);
                if (words || bytes) {
                    bench.isValid();
                } else {
                    bench.isInvalid();
                }
            }
        }
    }

    private static void nothingIsStored() {
        int[][] codes = {{0xa7, 0x87}, {0xa7, 0x90}, {0xaf, 0x92}, {0xad, 0x8f}, {0x6f, 0x8a},
            {0x61, 0x84}, {0x87, 5}, {0xcf, 0, 0}, {0x10, 0xaf, 0x8e}, {0x10, 0xed, 0x84}};
        for (int[] code : codes) {
            TaskComputer x = new TaskComputer();
            for (int address = 0; address < 40; address++) {
                x.poke(address, 0x55);
            }
            Checks.pokeAll(x, 400, code);
            x.start(1, 400, 0x33);
            String before = memoryOf(x);
            Checks.due("run", x.run(5), 1);
            Checks.due("same memory", memoryOf(x).equals(before), true);
            Checks.due("cycles", x.cycles(), 1);
            Checks.due("status", x.status(1), 255);
        }
    }

    /** Where the registers of these tasks point to, and their stack. */
    private static String memoryOf(TaskComputer x) {
        StringBuilder text = new StringBuilder();
        for (int address = 0; address < 40; address++) {
            text.append(x.peek(address)).append(' ');
        }
        for (int address = 230; address < 260; address++) {
            text.append(x.peek(address)).append(' ');
        }
        return text.toString();
    }

    private static void theNextTaskRuns() {
        TaskComputer x = new TaskComputer();
        x.poke(0, 0x11);
        x.start(0, 0, 0);
        x.start(1, 128, 5);
        x.timer(16);
        x.run(1);
        Checks.due("state(0)", x.state(0), 0);
        Checks.due("state(1)", x.state(1), 1);
        Checks.due("A", x.register(1, 8), 5);
        Checks.due("one cycle of the timer", x.left(), 15);
        Checks.due("start anew", x.start(0, 0, 0), true);
        Checks.due("behind", x.queued(0), 0);
    }

    private static void theLastTaskEnds() {
        TaskComputer x = new TaskComputer();
        x.poke(0, 0x38);
        x.start(3, 0, 5);
        Checks.due("it is a step", x.run(9), 1);
        Checks.due("state", x.state(3), 0);
        Checks.due("status", x.status(3), 255);
        Checks.due("register", x.register(3, 5), -1);
        Checks.due("it is not stacked", x.peek(500 + 11), 0);
        Checks.due("cycles", x.cycles(), 1);
    }

    /** Long as it is, the instruction takes one cycle, which can bring a tick. */
    private static void oneCycleOfTheTimer() {
        TaskComputer x = new TaskComputer();
        for (int address = 0; address < 15; address++) {
            x.poke(address, 0x12);
        }
        Checks.pokeAll(x, 15, 0x10, 0xaf, 0x8f, 0, 0);
        x.start(0, 0, 0);
        x.timer(16);
        x.run(15);
        Checks.due("left", x.left(), 1);
        x.run(1);
        Checks.due("ended", x.state(0), 0);
        Checks.due("left", x.left(), 16);
        Checks.due("pending", x.lost(), 100000);
    }
}
