/** Promises 1 to 3: a new object, poke and peek. */
public final class MemoryTest {
    public static void main(String[] args) {
        newObjectIsEmpty();
        pokeAnswersTheOldByte();
        everyByteIsItsOwn();
        wrongPokesChangeNothing();
        refusedPokesOfBothKinds();
        objectsShareNothing();
        pokeChangesFrames();
        pokeChangesTheCodeThatRuns();
        Checks.end();
    }

    private static void newObjectIsEmpty() {
        TaskComputer x = new TaskComputer();
        for (int address = 0; address < 512; address++) {
            Checks.due("peek(" + address + ")", x.peek(address), 0);
        }
        x = new TaskComputer();
        for (int t = 0; t < 4; t++) {
            Checks.due("state", x.state(t), 0);
            Checks.due("status", x.status(t), 0);
            Checks.due("sleeps", x.sleeps(t), 0);
            Checks.due("register", x.register(t, 0), -1);
            Checks.due("queued", x.queued(t), -1);
        }
        Checks.due("cycles", x.cycles(), 0);
        Checks.due("ticks", x.ticks(), 0);
        Checks.due("lost", x.lost(), 0);
        Checks.due("left", x.left(), 0);
        Checks.due("run", x.run(400), 0);
    }

    private static void pokeAnswersTheOldByte() {
        TaskComputer x = new TaskComputer();
        int[] addresses = {0, 1, 127, 128, 255, 256, 510, 511};
        for (int address : addresses) {
            Checks.due("first poke", x.poke(address, 255), 0);
            Checks.due("second poke", x.poke(address, address & 127), 255);
            Checks.due("peek", x.peek(address), address & 127);
        }
        Checks.due("untouched", x.peek(2), 0);
    }

    private static void everyByteIsItsOwn() {
        for (int rest = 0; rest < 4; rest++) {
            TaskComputer x = new TaskComputer();
            for (int address = rest; address < 512; address += 4) {
                Checks.due("poke(" + address + ")", x.poke(address, mark(address)), 0);
            }
            for (int address = rest; address < 512; address += 4) {
                Checks.due("peek(" + address + ")", x.peek(address), mark(address));
                int beside = address + 1;
                Checks.due("peek(" + beside + ")", x.peek(beside), beside == 512 ? -1 : 0);
            }
        }
    }

    private static int mark(int address) {
        return 255 - (address >> 2) - (address & 1);
    }

    private static void refusedPokesOfBothKinds() {
        TaskComputer x = new TaskComputer();
        x.poke(0, 255);
        Checks.due("both wrong", x.poke(512, 256), -1);
        Checks.due("both wrong", x.poke(-1, -1), -1);
        Checks.due("least v", x.poke(0, 0), 255);
        Checks.due("most v", x.poke(0, 255), 0);
        Checks.due("256 does not become 0", x.poke(0, 256), -1);
        Checks.due("the byte stays", x.peek(0), 255);
        Checks.due("512 is not 0", x.poke(512, 9), -1);
        Checks.due("65536 is not 0", x.poke(65536, 9), -1);
        Checks.due("the byte stays", x.peek(0), 255);
        Checks.due("-1 is not 511", x.poke(-1, 9), -1);
        Checks.due("511 stays", x.peek(511), 0);
    }

    private static void wrongPokesChangeNothing() {
        TaskComputer x = new TaskComputer();
        x.poke(0, 7);
        x.poke(511, 9);
        String before = Checks.pictureOf(x);
        int[] addresses = {-1, 512, 65535, 65536, Integer.MIN_VALUE, Integer.MAX_VALUE};
        for (int address : addresses) {
            Checks.due("poke(" + address + ", 1)", x.poke(address, 1), -1);
            Checks.due("peek(" + address + ")", x.peek(address), -1);
        }
        int[] values = {-1, 256, Integer.MIN_VALUE, Integer.MAX_VALUE};
        for (int value : values) {
            Checks.due("poke(0, " + value + ")", x.poke(0, value), -1);
        }
        Checks.due("nothing changed", Checks.pictureOf(x).equals(before), true);
    }

    private static void objectsShareNothing() {
        TaskComputer x = new TaskComputer();
        TaskComputer y = new TaskComputer();
        x.poke(5, 5);
        x.start(0, 5, 5);
        x.timer(16);
        Checks.due("other memory", y.peek(5), 0);
        Checks.due("other task", y.state(0), 0);
        Checks.due("other timer", y.left(), 0);
    }

    private static void pokeChangesFrames() {
        TaskComputer x = new TaskComputer();
        x.start(0, 0, 0);
        x.start(1, 128, 9);
        Checks.due("frame's A", x.poke(256 - 12 + 1, 77), 9);
        Checks.due("A of the READY task", x.register(1, 8), 77);
        x.poke(256 - 12 + 11, 200);
        x.stop(0);
        Checks.due("A as taken", x.register(1, 8), 77);
        Checks.due("PC as taken", x.register(1, 5), 200);
        x.poke(256 - 12 + 1, 1);
        Checks.due("a RUNNING task is in no frame", x.register(1, 8), 77);
    }

    private static void pokeChangesTheCodeThatRuns() {
        TaskComputer x = new TaskComputer();
        Checks.pokeAll(x, 0, 0x20, 0xfe);
        x.start(0, 0, 0);
        x.run(3);
        Checks.pokeAll(x, 0, 0x86, 42);
        x.run(1);
        Checks.due("A", x.register(0, 8), 42);
    }
}
