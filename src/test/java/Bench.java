/**
 * One instruction of task 0, with wanted registers. They are brought in by a frame: task 0 is
 * started behind task 1, its frame (116 .. 127) is poked, and task 1 is stopped. S is 128 then.
 */
final class Bench {
    static final int D = 0;
    static final int X = 1;
    static final int Y = 2;
    static final int U = 3;
    static final int S = 4;
    static final int PC = 5;
    static final int A = 8;
    static final int B = 9;
    static final int CC = 10;
    static final int DP = 11;

    static final int CODE = 300;

    final TaskComputer computer = new TaskComputer();
    private final String name;
    private final int[] wanted = new int[12];
    private int took;

    Bench(String name) {
        this.name = name;
        wanted[PC] = CODE;
    }

    Bench with(int register, int value) {
        if (register == D) {
            wanted[A] = value >> 8;
            wanted[B] = value & 255;
        } else {
            wanted[register] = value;
        }
        return this;
    }

    Bench bytes(int address, int... bytes) {
        Checks.pokeAll(computer, address, bytes);
        return this;
    }

    Bench does(int... code) {
        computer.start(1, 0, 0);
        computer.start(0, 0, 0);
        Checks.pokeAll(computer, 116, wanted[CC], wanted[A], wanted[B], wanted[DP],
                wanted[X] >> 8, wanted[X] & 255, wanted[Y] >> 8, wanted[Y] & 255,
                wanted[U] >> 8, wanted[U] & 255, wanted[PC] >> 8, wanted[PC] & 255);
        computer.stop(1);
        Checks.pokeAll(computer, wanted[PC], code);
        return goesOn();
    }

    Bench goesOn() {
        int before = computer.cycles();
        Checks.due(name + ": run(1)", computer.run(1), 1);
        took = computer.cycles() - before;
        return this;
    }

    Bench has(int register, int value) {
        Checks.due(name + ": register(0, " + register + ")", computer.register(0, register), value);
        return this;
    }

    Bench holds(int address, int value) {
        Checks.due(name + ": peek(" + address + ")", computer.peek(address), value);
        return this;
    }

    Bench took(int cycles) {
        Checks.due(name + ": cycles", took, cycles);
        return this;
    }

    /** The task goes on at this address: neither ended nor elsewhere. */
    Bench at(int pc) {
        return state(1).has(PC, pc);
    }

    Bench state(int state) {
        Checks.due(name + ": state(0)", computer.state(0), state);
        return this;
    }

    Bench isValid() {
        return state(1);
    }

    Bench isInvalid() {
        state(0);
        Checks.due(name + ": status(0)", computer.status(0), 255);
        return took(1);
    }
}
