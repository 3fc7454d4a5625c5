/**
 * A small computer: an eight-bit processor with two stacks, a timer, and a kernel that lets up to
 * four tasks take turns, each in a block of memory of its own.
 */
public final class TaskComputer {
    private static final int NONE = -1;
    private static final int BYTE = 1;
    private static final int WORD = 2;
    private static final int BYTE_MASK = 0xff;
    private static final int WORD_MASK = 0xffff;
    private static final int MOST_STEPS = 400;
    private static final int LEAST_PERIOD = 16;
    private static final int MOST_PERIOD = 1000;
    private static final int PENDING_MARK = 100000;

    private final Memory memory;
    private final Processor processor;
    private final Kernel kernel;
    private final Timer timer;

    public TaskComputer() {
        Memory bytes = new Memory();
        Registers registers = new Registers();
        memory = bytes;
        processor = new Processor(bytes, registers);
        kernel = new Kernel(bytes, registers);
        timer = new Timer();
    }

    public int poke(int address, int v) {
        if (!Memory.holds(address) || v < 0 || v > BYTE_MASK) {
            return NONE;
        }
        int old = memory.load(address, BYTE);
        memory.store(address, v, BYTE);
        return old;
    }

    public int peek(int address) {
        return Memory.holds(address) ? memory.load(address, BYTE) : NONE;
    }

    public boolean start(int t, int address, int a) {
        Task task = kernel.taskAt(t);
        if (task == null || task.state != Task.FREE) {
            return false;
        }
        if (address < 0 || address > WORD_MASK || a < 0 || a > BYTE_MASK) {
            return false;
        }
        kernel.begin(task, address, a);
        kernel.takeNext();
        return true;
    }

    public boolean stop(int t) {
        Task task = kernel.taskAt(t);
        if (task == null || task.state == Task.FREE) {
            return false;
        }
        kernel.end(task, Kernel.STATUS_STOPPED);
        kernel.takeNext();
        return true;
    }

    public boolean timer(int p) {
        if (p != 0 && (p < LEAST_PERIOD || p > MOST_PERIOD)) {
            return false;
        }
        timer.period = p;
        timer.left = p;
        return true;
    }

    public int run(int n) {
        if (n < 0 || n > MOST_STEPS) {
            return NONE;
        }
        for (int made = 0; made < n; made++) {
            if (timer.pending && kernel.canServe()) {
                timer.countServed();
                kernel.serveTick();
            }
            if (kernel.running != null) {
                kernel.settle(processor.execute());
                timer.letPass(processor.cycles);
            } else if (timer.period > 0) {
                timer.letPass(timer.left);
            } else {
                return made;
            }
        }
        return n;
    }

    public int state(int t) {
        Task task = kernel.taskAt(t);
        return task == null ? NONE : task.state;
    }

    public int register(int t, int k) {
        Task task = kernel.taskAt(t);
        if (task == null || task.state == Task.FREE || !Registers.exists(k)) {
            return NONE;
        }
        return kernel.registersOf(task).get(k);
    }

    public int queued(int k) {
        return kernel.queue.numberAt(k);
    }

    public int sleeps(int t) {
        Task task = kernel.taskAt(t);
        return task == null || task.state != Task.SLEEPING ? 0 : task.sleep;
    }

    public int status(int t) {
        Task task = kernel.taskAt(t);
        return task == null ? NONE : task.status;
    }

    public int cycles() {
        return timer.passed;
    }

    public int ticks() {
        return timer.served;
    }

    public int lost() {
        return timer.pending ? timer.missed + PENDING_MARK : timer.missed;
    }

    public int left() {
        return timer.left;
    }

    private static final class Memory {
        static final int BLOCK = 128;
        private static final int SIZE = 512;

        private final int[] bytes = new int[SIZE];

        static boolean holds(int address) {
            return address >= 0 && address < SIZE;
        }

        int load(int address, int size) {
            int value = 0;
            for (int i = 0; i < size; i++) {
                int at = address + i & WORD_MASK;
                value = value << 8 | (at < SIZE ? bytes[at] : 0);
            }
            return value;
        }

        void store(int address, int value, int size) {
            int rest = value;
            for (int i = size - 1; i >= 0; i--) {
                int at = address + i & WORD_MASK;
                if (at < SIZE) {
                    bytes[at] = rest & BYTE_MASK;
                }
                rest = rest >> 8;
            }
        }

        void copyBlock(int from, int to) {
            for (int i = 0; i < BLOCK; i++) {
                store(BLOCK * to + i, load(BLOCK * from + i, BYTE), BYTE);
            }
        }
    }

    /** The registers by the numbers that exchanges and the face know them by, and the flags. */
    private static final class Registers {
        static final int D = 0;
        static final int X = 1;
        static final int Y = 2;
        static final int U = 3;
        static final int S = 4;
        static final int PC = 5;
        static final int A = 8;
        static final int B = 9;
        static final int CC = 10;
        static final int DP = 11;

        static final int FLAG_E = 128;
        static final int FLAG_I = 16;
        static final int FLAG_N = 8;
        static final int FLAG_Z = 4;
        static final int FLAG_V = 2;
        static final int FLAG_C = 1;

        static final int PUSH_ALL = 0xff;
        static final int PUSH_PC = 0x80;
        private static final int OTHER_STACK_BIT = 6;
        private static final int[] PUSHED = {CC, A, B, DP, X, Y, U, PC};

        int a;
        int b;
        int dp;
        int cc;
        int x;
        int y;
        int u;
        int s;
        int pc;

        static boolean exists(int number) {
            return number >= D && number <= PC || number >= A && number <= DP;
        }

        static int sizeOf(int number) {
            return number <= PC ? WORD : BYTE;
        }

        int get(int number) {
            switch (number) {
                case D: return a << 8 | b;
                case X: return x;
                case Y: return y;
                case U: return u;
                case S: return s;
                case PC: return pc;
                case A: return a;
                case B: return b;
                case CC: return cc;
                default: return dp;
            }
        }

        void set(int number, int value) {
            int word = value & WORD_MASK;
            int low = value & BYTE_MASK;
            switch (number) {
                case D: a = word >> 8; b = low; break;
                case X: x = word; break;
                case Y: y = word; break;
                case U: u = word; break;
                case S: s = word; break;
                case PC: pc = word; break;
                case A: a = low; break;
                case B: b = low; break;
                case CC: cc = low; break;
                default: dp = low; break;
            }
        }

        boolean has(int flag) {
            return (cc & flag) != 0;
        }

        void setFlags(int named, int values) {
            cc = cc & ~named | values;
        }

        /** Pushes the registers that the bits of chosen name; how many bytes were stored. */
        int push(Memory memory, int stack, int chosen) {
            int moved = 0;
            for (int bit = 7; bit >= 0; bit--) {
                if ((chosen >> bit & 1) == 1) {
                    int number = pushedAt(bit, stack);
                    int size = sizeOf(number);
                    set(stack, get(stack) - size);
                    memory.store(get(stack), get(number), size);
                    moved += size;
                }
            }
            return moved;
        }

        /** Pulls the registers that the bits of chosen name; how many bytes were loaded. */
        int pull(Memory memory, int stack, int chosen) {
            int moved = 0;
            for (int bit = 0; bit <= 7; bit++) {
                if ((chosen >> bit & 1) == 1) {
                    int number = pushedAt(bit, stack);
                    int size = sizeOf(number);
                    set(number, memory.load(get(stack), size));
                    set(stack, get(stack) + size);
                    moved += size;
                }
            }
            return moved;
        }

        private static int pushedAt(int bit, int stack) {
            return bit == OTHER_STACK_BIT && stack == U ? S : PUSHED[bit];
        }
    }

    /** The flags of calculations, in 8 or 16 bits by the size of what is calculated. */
    private static final class Calculator {
        private static final int NZ = Registers.FLAG_N | Registers.FLAG_Z;
        private static final int NZV = NZ | Registers.FLAG_V;
        private static final int NZC = NZ | Registers.FLAG_C;
        private static final int NZVC = NZV | Registers.FLAG_C;

        private final Registers registers;

        Calculator(Registers registers) {
            this.registers = registers;
        }

        static int signed(int value, int size) {
            return size == BYTE ? (byte) value : (short) value;
        }

        int carry() {
            return registers.cc & Registers.FLAG_C;
        }

        int sum(int x, int y, int c, int size) {
            int mask = maskOf(size);
            int result = x + y + c & mask;
            int flags = signOf(result, size);
            if (x + y + c > mask) {
                flags |= Registers.FLAG_C;
            }
            if (signed(x, size) + signed(y, size) + c != signed(result, size)) {
                flags |= Registers.FLAG_V;
            }
            registers.setFlags(NZVC, flags);
            return result;
        }

        int difference(int x, int y, int c, int size) {
            int result = x - y - c & maskOf(size);
            int flags = signOf(result, size);
            if (y + c > x) {
                flags |= Registers.FLAG_C;
            }
            if (signed(x, size) - signed(y, size) - c != signed(result, size)) {
                flags |= Registers.FLAG_V;
            }
            registers.setFlags(NZVC, flags);
            return result;
        }

        int plain(int result, int size) {
            registers.setFlags(NZV, signOf(result, size));
            return result;
        }

        int plainWithCarry(int result, int c) {
            registers.setFlags(NZVC, signOf(result, BYTE) | c);
            return result;
        }

        int shiftRight(int m, int highest) {
            int result = m >> 1 | highest;
            registers.setFlags(NZC, signOf(result, BYTE) | m & 1);
            return result;
        }

        int shiftLeft(int m, int lowest) {
            int result = m << 1 & BYTE_MASK | lowest;
            int out = m >> 7;
            int overflow = (result >> 7 ^ out) == 1 ? Registers.FLAG_V : 0;
            registers.setFlags(NZVC, signOf(result, BYTE) | overflow | out);
            return result;
        }

        int decrement(int m) {
            int result = m - 1 & BYTE_MASK;
            registers.setFlags(NZV, signOf(result, BYTE) | (m == 128 ? Registers.FLAG_V : 0));
            return result;
        }

        int increment(int m) {
            int result = m + 1 & BYTE_MASK;
            registers.setFlags(NZV, signOf(result, BYTE) | (m == 127 ? Registers.FLAG_V : 0));
            return result;
        }

        void extendB() {
            int result = signed(registers.b, BYTE) & WORD_MASK;
            registers.set(Registers.D, result);
            registers.setFlags(NZ, signOf(result, WORD));
        }

        void multiply() {
            int result = registers.a * registers.b;
            registers.set(Registers.D, result);
            int zero = result == 0 ? Registers.FLAG_Z : 0;
            registers.setFlags(Registers.FLAG_Z | Registers.FLAG_C, zero | registers.b >> 7);
        }

        private static int maskOf(int size) {
            return size == BYTE ? BYTE_MASK : WORD_MASK;
        }

        private static int signOf(int result, int size) {
            if (result == 0) {
                return Registers.FLAG_Z;
            }
            return signed(result, size) < 0 ? Registers.FLAG_N : 0;
        }
    }

    /** Does instructions, one at a time, on the registers of the running task. */
    private static final class Processor {
        /** What execute answers besides 0 .. 255, the numbers of calls of the kernel. */
        static final int DONE = -1;
        static final int INVALID = -2;

        private static final int SECOND_PAGE = 0x10;
        private static final int IMMEDIATE = 0;
        private static final int DIRECT = 1;
        private static final int INDEXED = 2;

        /** What is done with a register and its operand: op & 15 for the registers A and B. */
        private static final int SUBTRACT = 0;
        private static final int COMPARE = 1;
        private static final int SUBTRACT_WITH_CARRY = 2;
        private static final int AND = 4;
        private static final int TEST_BITS = 5;
        private static final int LOAD = 6;
        private static final int STORE = 7;
        private static final int XOR = 8;
        private static final int ADD_WITH_CARRY = 9;
        private static final int OR = 10;
        private static final int ADD = 11;

        /** How an operand alone is changed: op & 15. */
        private static final int NEGATE = 0;
        private static final int INVERT = 3;
        private static final int SHIFT_RIGHT = 4;
        private static final int ROTATE_RIGHT = 6;
        private static final int SHIFT_RIGHT_SIGNED = 7;
        private static final int SHIFT_LEFT = 8;
        private static final int ROTATE_LEFT = 9;
        private static final int DECREMENT = 10;
        private static final int INCREMENT = 12;
        private static final int TEST = 13;
        private static final int JUMP = 14;
        private static final int CLEAR = 15;

        int cycles;

        private final Memory memory;
        private final Registers registers;
        private final Calculator calculator;
        private int outcome;

        Processor(Memory memory, Registers registers) {
            this.memory = memory;
            this.registers = registers;
            this.calculator = new Calculator(registers);
        }

        int execute() {
            cycles = 0;
            outcome = DONE;
            int op = fetch(BYTE);
            switch (op >> 4) {
                case 0: changeMemory(op & 15, DIRECT); break;
                case 1:
                    if (op == SECOND_PAGE) {
                        doSecondPage(fetch(BYTE));
                    } else {
                        doGroup1(op);
                    }
                    break;
                case 2: branch(op & 15); break;
                case 3: doGroup3(op); break;
                case 4: changeRegister(op & 15, Registers.A); break;
                case 5: changeRegister(op & 15, Registers.B); break;
                case 6:
                case 7: changeMemory(op & 15, op >> 4 & 3); break;
                default: doMainPage(op); break;
            }
            if (outcome == INVALID) {
                cycles = 1;
            }
            return outcome;
        }

        private int fetch(int size) {
            int value = memory.load(registers.pc, size);
            skip(size);
            cycles += size;
            return value;
        }

        private void skip(int size) {
            registers.pc = registers.pc + size & WORD_MASK;
        }

        private int load(int address, int size) {
            cycles += size;
            return memory.load(address, size);
        }

        private void store(int address, int value, int size) {
            cycles += size;
            memory.store(address, value, size);
        }

        private void push(int stack, int chosen) {
            cycles += registers.push(memory, stack, chosen);
        }

        private void pull(int stack, int chosen) {
            cycles += registers.pull(memory, stack, chosen);
        }

        private void doMainPage(int op) {
            int mode = op >> 4 & 3;
            boolean upper = op >= 0xc0;
            switch (op & 15) {
                case 3: operate(upper ? ADD : SUBTRACT, Registers.D, mode); break;
                case 12:
                    if (upper) {
                        operate(LOAD, Registers.D, mode);
                    } else {
                        operate(COMPARE, Registers.X, mode);
                    }
                    break;
                case 13:
                    if (upper) {
                        operate(STORE, Registers.D, mode);
                    } else {
                        callAt(mode);
                    }
                    break;
                case 14: operate(LOAD, upper ? Registers.U : Registers.X, mode); break;
                case 15: operate(STORE, upper ? Registers.U : Registers.X, mode); break;
                default: operate(op & 15, upper ? Registers.B : Registers.A, mode); break;
            }
        }

        private void doSecondPage(int op) {
            int mode = op >> 4 & 3;
            boolean upper = op >= 0xc0;
            int kind = op & 15;
            if (op < 0x80 || upper && kind < 14) {
                outcome = INVALID;
                return;
            }
            switch (kind) {
                case 3: operate(COMPARE, Registers.D, mode); break;
                case 12: operate(COMPARE, Registers.Y, mode); break;
                case 14: operate(LOAD, upper ? Registers.S : Registers.Y, mode); break;
                case 15: operate(STORE, upper ? Registers.S : Registers.Y, mode); break;
                default: outcome = INVALID; break;
            }
        }

        private void operate(int action, int number, int mode) {
            int size = Registers.sizeOf(number);
            if (action == STORE && mode == IMMEDIATE) {
                outcome = INVALID;
                return;
            }
            int address = operandAddress(mode, size);
            if (outcome == INVALID) {
                return;
            }
            if (action == STORE) {
                store(address, calculator.plain(registers.get(number), size), size);
                return;
            }
            int m = load(address, size);
            int result = calculate(action, registers.get(number), m, size);
            if (action != COMPARE && action != TEST_BITS) {
                registers.set(number, result);
            }
        }

        private int calculate(int action, int r, int m, int size) {
            switch (action) {
                case SUBTRACT:
                case COMPARE: return calculator.difference(r, m, 0, size);
                case SUBTRACT_WITH_CARRY:
                    return calculator.difference(r, m, calculator.carry(), size);
                case AND:
                case TEST_BITS: return calculator.plain(r & m, size);
                case XOR: return calculator.plain(r ^ m, size);
                case ADD_WITH_CARRY: return calculator.sum(r, m, calculator.carry(), size);
                case OR: return calculator.plain(r | m, size);
                case ADD: return calculator.sum(r, m, 0, size);
                default: return calculator.plain(m, size);
            }
        }

        /**
         * An immediate operand lies in the instruction: it is loaded from there like any other, so
         * its bytes are counted by that load and not fetched here.
         */
        private int operandAddress(int mode, int size) {
            switch (mode) {
                case IMMEDIATE:
                    int here = registers.pc;
                    skip(size);
                    return here;
                case DIRECT: return registers.dp << 8 | fetch(BYTE);
                case INDEXED: return indexedAddress();
                default: return fetch(WORD);
            }
        }

        private int indexedAddress() {
            int p = fetch(BYTE);
            int number = Registers.X + (p >> 5 & 3);
            int base = registers.get(number);
            if (p < 128) {
                return base + (p & 15) - (p & 16) & WORD_MASK;
            }
            int form = p & 15;
            boolean indirect = (p & 16) != 0;
            if (!isIndexedForm(form, indirect)) {
                outcome = INVALID;
                return 0;
            }
            int address = base;
            switch (form) {
                case 0:
                case 1: registers.set(number, base + form + 1); break;
                case 2:
                case 3:
                    address = base - form + 1;
                    registers.set(number, address);
                    break;
                case 4: break;
                case 5: address = base + Calculator.signed(registers.b, BYTE); break;
                case 6: address = base + Calculator.signed(registers.a, BYTE); break;
                case 8: address = base + Calculator.signed(fetch(BYTE), BYTE); break;
                case 9: address = base + fetch(WORD); break;
                case 11: address = base + registers.get(Registers.D); break;
                // The fetch stands first: PC counts from behind what is fetched.
                case 12: address = Calculator.signed(fetch(BYTE), BYTE) + registers.pc; break;
                case 13: address = fetch(WORD) + registers.pc; break;
                default: address = fetch(WORD); break;
            }
            return indirect ? load(address, WORD) : address & WORD_MASK;
        }

        private static boolean isIndexedForm(int form, boolean indirect) {
            switch (form) {
                case 0:
                case 2: return !indirect;
                case 7:
                case 10:
                case 14: return false;
                case 15: return indirect;
                default: return true;
            }
        }

        private void callAt(int mode) {
            int address;
            if (mode == IMMEDIATE) {
                address = Calculator.signed(fetch(BYTE), BYTE) + registers.pc & WORD_MASK;
            } else {
                address = operandAddress(mode, BYTE);
            }
            if (outcome != INVALID) {
                push(Registers.S, Registers.PUSH_PC);
                registers.pc = address;
            }
        }

        private void changeMemory(int kind, int mode) {
            int address = operandAddress(mode, BYTE);
            if (!isChange(kind) && kind != JUMP) {
                outcome = INVALID;
            }
            if (outcome == INVALID) {
                return;
            }
            if (kind == JUMP) {
                registers.pc = address;
                return;
            }
            int result = changed(kind, kind == CLEAR ? 0 : load(address, BYTE));
            if (kind != TEST) {
                store(address, result, BYTE);
            }
        }

        private void changeRegister(int kind, int number) {
            if (isChange(kind)) {
                registers.set(number, changed(kind, registers.get(number)));
            } else {
                outcome = INVALID;
            }
        }

        private static boolean isChange(int kind) {
            return kind != 1 && kind != 2 && kind != 5 && kind != 11 && kind != JUMP;
        }

        private int changed(int kind, int m) {
            switch (kind) {
                case NEGATE: return calculator.difference(0, m, 0, BYTE);
                case INVERT: return calculator.plainWithCarry(m ^ BYTE_MASK, 1);
                case SHIFT_RIGHT: return calculator.shiftRight(m, 0);
                case ROTATE_RIGHT: return calculator.shiftRight(m, calculator.carry() << 7);
                case SHIFT_RIGHT_SIGNED: return calculator.shiftRight(m, m & 128);
                case SHIFT_LEFT: return calculator.shiftLeft(m, 0);
                case ROTATE_LEFT: return calculator.shiftLeft(m, calculator.carry());
                case DECREMENT: return calculator.decrement(m);
                case INCREMENT: return calculator.increment(m);
                case TEST: return calculator.plain(m, BYTE);
                default: return calculator.plainWithCarry(0, 0);
            }
        }

        private void branch(int condition) {
            int offset = Calculator.signed(fetch(BYTE), BYTE);
            if (holds(condition)) {
                registers.pc = registers.pc + offset & WORD_MASK;
            }
        }

        private boolean holds(int condition) {
            boolean c = registers.has(Registers.FLAG_C);
            boolean v = registers.has(Registers.FLAG_V);
            boolean z = registers.has(Registers.FLAG_Z);
            boolean n = registers.has(Registers.FLAG_N);
            boolean even = (condition & 1) == 0;
            switch (condition >> 1) {
                case 0: return even;
                case 1: return even == (!c && !z);
                case 2: return even == !c;
                case 3: return even == !z;
                case 4: return even == !v;
                case 5: return even == !n;
                case 6: return even == (n == v);
                default: return even == (n == v && !z);
            }
        }

        private void doGroup1(int op) {
            switch (op) {
                case 0x12: break;
                case 0x1a: registers.cc |= fetch(BYTE); break;
                case 0x1c: registers.cc &= fetch(BYTE); break;
                case 0x1d: calculator.extendB(); break;
                case 0x1e: moveRegister(true); break;
                case 0x1f: moveRegister(false); break;
                default: outcome = INVALID; break;
            }
        }

        private void moveRegister(boolean exchange) {
            int numbers = fetch(BYTE);
            int first = numbers >> 4;
            int second = numbers & 15;
            if (!Registers.exists(first) || !Registers.exists(second)
                    || Registers.sizeOf(first) != Registers.sizeOf(second)) {
                outcome = INVALID;
                return;
            }
            int old = registers.get(second);
            registers.set(second, registers.get(first));
            if (exchange) {
                registers.set(first, old);
            }
        }

        private void doGroup3(int op) {
            switch (op) {
                case 0x30: loadAddress(Registers.X); break;
                case 0x31: loadAddress(Registers.Y); break;
                case 0x32: loadAddress(Registers.S); break;
                case 0x33: loadAddress(Registers.U); break;
                case 0x34: push(Registers.S, fetch(BYTE)); break;
                case 0x35: pull(Registers.S, fetch(BYTE)); break;
                case 0x36: push(Registers.U, fetch(BYTE)); break;
                case 0x37: pull(Registers.U, fetch(BYTE)); break;
                case 0x39: pull(Registers.S, Registers.PUSH_PC); break;
                case 0x3a: registers.set(Registers.X, registers.x + registers.b); break;
                case 0x3d: calculator.multiply(); break;
                case 0x3f: outcome = fetch(BYTE); break;
                default: outcome = INVALID; break;
            }
        }

        private void loadAddress(int number) {
            int address = indexedAddress();
            registers.set(number, address);
            if (number == Registers.X || number == Registers.Y) {
                registers.setFlags(Registers.FLAG_Z, address == 0 ? Registers.FLAG_Z : 0);
            }
        }
    }

    private static final class Task {
        static final int FREE = 0;
        static final int RUNNING = 1;
        static final int READY = 2;
        static final int SLEEPING = 3;

        final int number;
        int state;
        int s;
        int sleep;
        int status;

        Task(int number) {
            this.number = number;
        }
    }

    private static final class Queue {
        private final Task[] places;
        private int size;

        Queue(int most) {
            places = new Task[most];
        }

        void append(Task task) {
            if (size < places.length) {
                places[size] = task;
                size++;
            }
        }

        Task removeFirst() {
            if (size == 0) {
                return null;
            }
            Task first = places[0];
            remove(first);
            return first;
        }

        void remove(Task task) {
            int kept = 0;
            for (int i = 0; i < size; i++) {
                if (places[i] != task) {
                    places[kept] = places[i];
                    kept++;
                }
            }
            size = kept;
        }

        int numberAt(int place) {
            return place >= 0 && place < size ? places[place].number : NONE;
        }
    }

    private static final class Timer {
        int period;
        int left;
        int passed;
        int served;
        int missed;
        boolean pending;

        void letPass(int cycles) {
            passed += cycles;
            if (period == 0) {
                return;
            }
            left -= cycles;
            if (left <= 0) {
                left += period;
                if (pending) {
                    missed++;
                }
                pending = true;
            }
        }

        void countServed() {
            pending = false;
            served++;
        }
    }

    /** Lets the tasks take turns; the registers are those of the running one, if there is one. */
    private static final class Kernel {
        static final int STATUS_STOPPED = 254;
        private static final int STATUS_INVALID = 255;
        private static final int TASKS = 4;

        private static final int CALL_FORK = 1;
        private static final int CALL_SLEEP = 2;
        private static final int CALL_EXIT = 3;
        private static final int CALL_ID = 4;
        private static final int ERROR_NO_FORK = 1;
        private static final int ERROR_NO_CALL = 2;

        private static final int FRAME_A = 1;
        private static final int FRAME_B = 2;

        final Queue queue = new Queue(TASKS);
        Task running;

        private final Memory memory;
        private final Registers registers;
        private final Registers spare = new Registers();
        private final Task[] tasks = new Task[TASKS];

        Kernel(Memory memory, Registers registers) {
            this.memory = memory;
            this.registers = registers;
            for (int t = 0; t < TASKS; t++) {
                tasks[t] = new Task(t);
            }
        }

        Task taskAt(int t) {
            return t >= 0 && t < TASKS ? tasks[t] : null;
        }

        Registers registersOf(Task task) {
            if (task == running) {
                return registers;
            }
            take(task, spare);
            return spare;
        }

        void begin(Task task, int address, int a) {
            spare.a = a;
            spare.b = 0;
            spare.dp = 0;
            spare.cc = 0;
            spare.x = 0;
            spare.y = 0;
            spare.u = 0;
            spare.s = Memory.BLOCK * task.number + Memory.BLOCK;
            spare.pc = address;
            stack(task, spare);
            makeReady(task);
        }

        void end(Task task, int status) {
            if (task == running) {
                running = null;
            }
            queue.remove(task);
            task.state = Task.FREE;
            task.status = status;
        }

        void takeNext() {
            if (running == null) {
                Task first = queue.removeFirst();
                if (first != null) {
                    resume(first);
                }
            }
        }

        boolean canServe() {
            return running == null || !registers.has(Registers.FLAG_I);
        }

        void serveTick() {
            for (int t = 0; t < TASKS; t++) {
                Task task = tasks[t];
                if (task.state == Task.SLEEPING) {
                    task.sleep--;
                    if (task.sleep == 0) {
                        makeReady(task);
                    }
                }
            }
            if (running != null) {
                stack(running, registers);
                makeReady(running);
                running = null;
            }
            takeNext();
        }

        /** Does what the outcome of the running task's instruction asks for. */
        void settle(int outcome) {
            if (running == null || outcome == Processor.DONE) {
                return;
            }
            if (outcome == Processor.INVALID) {
                end(running, STATUS_INVALID);
            } else {
                answer(running, outcome);
            }
            takeNext();
        }

        private void answer(Task caller, int call) {
            int x = registers.x;
            int a = registers.a;
            stack(caller, registers);
            running = null;
            switch (call) {
                case CALL_FORK:
                    fork(caller, x, a);
                    resume(caller);
                    break;
                case CALL_SLEEP: putToSleep(caller, x); break;
                case CALL_EXIT: end(caller, a); break;
                case CALL_ID:
                    succeed(caller, caller.number);
                    resume(caller);
                    break;
                default:
                    fail(caller, ERROR_NO_CALL);
                    resume(caller);
                    break;
            }
        }

        private void fork(Task caller, int x, int a) {
            Task child = leastFree();
            if (child == null || x >= Memory.BLOCK) {
                fail(caller, ERROR_NO_FORK);
                return;
            }
            memory.copyBlock(caller.number, child.number);
            begin(child, Memory.BLOCK * child.number + x, a);
            succeed(caller, child.number);
        }

        private Task leastFree() {
            for (int t = 0; t < TASKS; t++) {
                if (tasks[t].state == Task.FREE) {
                    return tasks[t];
                }
            }
            return null;
        }

        private void putToSleep(Task task, int wanted) {
            if (wanted == 0) {
                makeReady(task);
            } else {
                task.state = Task.SLEEPING;
                task.sleep = wanted;
            }
        }

        private void succeed(Task caller, int a) {
            memory.store(caller.s + FRAME_A, a, BYTE);
            memory.store(caller.s, memory.load(caller.s, BYTE) & ~Registers.FLAG_C, BYTE);
        }

        private void fail(Task caller, int b) {
            memory.store(caller.s + FRAME_B, b, BYTE);
            memory.store(caller.s, memory.load(caller.s, BYTE) | Registers.FLAG_C, BYTE);
        }

        private void makeReady(Task task) {
            task.state = Task.READY;
            queue.append(task);
        }

        private void resume(Task task) {
            take(task, registers);
            task.state = Task.RUNNING;
            running = task;
        }

        private void stack(Task task, Registers from) {
            from.cc |= Registers.FLAG_E;
            from.push(memory, Registers.S, Registers.PUSH_ALL);
            task.s = from.s;
        }

        private void take(Task task, Registers into) {
            into.s = task.s;
            into.pull(memory, Registers.S, Registers.PUSH_ALL);
        }
    }
}
