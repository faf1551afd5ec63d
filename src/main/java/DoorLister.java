import java.util.Arrays;

/** A maker of call lists for programs of a small machine; the document's promises say what each call answers. */
public final class DoorLister {
    /** There is none. */
    public static final int NONE = -1;

    private static final int PROGRAMS = 4;
    private static final int SETS = 16;
    private static final int CODE_MOST = 24;
    private static final int REGISTERS = 2;
    private static final int PHASES = 2;
    private static final int AFTER = 1;
    /** Numbers in registers, doors and arguments all go from 0 to 31, so that an int holds a bit for each. */
    private static final int VALUES = 32;
    private static final int HIGHEST = VALUES - 1;
    private static final int CALLS_MOST = VALUES * VALUES;
    private static final int TAPE_MOST = 80;
    private static final int FEED_BYTES = 20;
    private static final int RUN_MOST = 500;
    private static final int EFFECTS_MOST = 10;
    private static final int POWERS = 8;
    private static final int POWER_SETS = 256;

    private static final int SET = 0;
    private static final int ADD = 1;
    private static final int COPY = 2;
    private static final int READ = 3;
    private static final int MASK = 4;
    private static final int IF = 5;
    private static final int GO = 6;
    private static final int CALL = 7;
    private static final int POINT = 8;
    private static final int END = 9;

    private static final int BY_END = 0;
    private static final int BY_NO_BYTE = 1;
    private static final int BY_MOST = 2;

    private final Program[] programs = new Program[PROGRAMS];
    private final Tape tape = new Tape();
    private final Machine machine = new Machine();
    private final House house = new House();
    private final int[] list = new int[VALUES];
    private final int[] kept = new int[VALUES];

    public DoorLister() {
        Scratch scratch = new Scratch();
        for (int p = 0; p < PROGRAMS; p++) {
            Code code = new Code();
            programs[p] = new Program(code, new Paths(code, scratch));
        }
    }

    public int code(int p, int kind, int x, int n, int to) {
        if (!isProgram(p) || !isInstruction(kind, x, n, to)) {
            return NONE;
        }
        return programs[p].append(kind, x, n, to);
    }

    public boolean change(int p, int i, int kind, int x, int n, int to) {
        if (!isProgram(p) || !isInstruction(kind, x, n, to)) {
            return false;
        }
        return programs[p].replace(i, kind, x, n, to);
    }

    public boolean copy(int p, int q) {
        if (!isProgram(p) || !isProgram(q) || p == q) {
            return false;
        }
        programs[p].takeCodeOf(programs[q]);
        return true;
    }

    public int needed(int p, int phase, int door) {
        if (!isProgram(p) || !isPhase(phase) || !isValue(door)) {
            return 0;
        }
        return programs[p].paths().searched().calls().arguments(phase, door);
    }

    public int spans(int p, int phase) {
        if (!isProgram(p) || !isPhase(phase)) {
            return NONE;
        }
        return programs[p].paths().searched().calls().spansIn(phase);
    }

    public int span(int p, int phase, int i, int what) {
        if (!isProgram(p) || !isPhase(phase) || i < 0) {
            return NONE;
        }
        return programs[p].paths().searched().calls().spanPart(phase, i, what);
    }

    public int steps(int p, int phase, int door, int argument) {
        if (!isProgram(p) || !isPhase(phase) || !isValue(door) || !isValue(argument)) {
            return NONE;
        }
        return programs[p].paths().searched().lengthTo(phase, door, argument);
    }

    public int way(int p, int phase, int door, int argument, int i) {
        if (!isProgram(p) || !isPhase(phase) || !isValue(door) || !isValue(argument)) {
            return NONE;
        }
        return programs[p].paths().searched().instructionTo(phase, door, argument, i);
    }

    public int feed(int a, int b, int c, int d, int e) {
        if (!tape.hasRoom(FEED_BYTES)) {
            return NONE;
        }
        tape.addWord(a);
        tape.addWord(b);
        tape.addWord(c);
        tape.addWord(d);
        tape.addWord(e);
        return tape.size();
    }

    public int run(int p, int n) {
        if (!isProgram(p) || n < 0 || n > tape.size()) {
            return NONE;
        }
        int calls = machine.perform(programs[p].instructions(), tape, n, programs[p].called());
        tape.empty();
        return calls;
    }

    public int ended() {
        return machine.latestEnd();
    }

    public int seen(int p, int phase, int door) {
        if (!isProgram(p) || !isPhase(phase) || !isValue(door)) {
            return 0;
        }
        return programs[p].called().arguments(phase, door);
    }

    public int melted(int set, int phase, int door) {
        if (!isSet(set) || !isPhase(phase) || !isValue(door)) {
            return 0;
        }
        int arguments = 0;
        for (int p = 0; p < PROGRAMS; p++) {
            if (holds(set, p)) {
                arguments |= programs[p].paths().searched().calls().arguments(phase, door);
            }
        }
        return arguments;
    }

    public int fresh(int p, int q, int phase, int door) {
        if (!isProgram(p) || !isProgram(q) || !isPhase(phase) || !isValue(door)) {
            return 0;
        }
        int before = programs[q].paths().searched().calls().arguments(phase, door);
        return programs[p].paths().searched().calls().arguments(phase, door) & ~before;
    }

    public int effect(int door, int first, int last, int takes, int gives) {
        if (!isValue(door) || !isValue(first) || !isValue(last) || last < first) {
            return NONE;
        }
        if (!isPowers(takes) || !isPowers(gives)) {
            return NONE;
        }
        return house.append(door, side(first, last), takes, gives);
    }

    public int reach(int set, boolean seen) {
        if (!isSet(set)) {
            return NONE;
        }
        gather(set);
        return house.powersBy(seen ? kept : list);
    }

    public int shut(int set, int power) {
        if (!isSet(set) || !isPower(power)) {
            return NONE;
        }
        gather(set);
        int cut = house.leastCut(list, kept, power);
        return cut == NONE ? NONE : house.takeOut(list, cut);
    }

    public int cuts(int set, int power) {
        if (!isSet(set) || !isPower(power)) {
            return NONE;
        }
        gather(set);
        return house.leastCut(list, kept, power);
    }

    public int look(int p, int i, int what) {
        if (!isProgram(p)) {
            return NONE;
        }
        Code instructions = programs[p].instructions();
        if (!instructions.has(i)) {
            return NONE;
        }
        switch (what) {
            case 0: return instructions.kind(i);
            case 1: return instructions.x(i);
            case 2: return instructions.n(i);
            case 3: return instructions.to(i);
            case 4: return programs[p].paths().searched().comesTo(i) ? 1 : 0;
            default: return NONE;
        }
    }

    public int count(int p, int what) {
        if (p == NONE) {
            return what == 0 ? house.size() : what == 1 ? tape.size() : NONE;
        }
        if (!isProgram(p)) {
            return NONE;
        }
        switch (what) {
            case 0: return programs[p].instructions().length();
            case 1:
            case 2: return programs[p].paths().searched().calls().callsIn(what - 1);
            case 3:
            case 4: return programs[p].called().callsIn(what - 3);
            default: return NONE;
        }
    }

    /** The two lists of a set stand in rows of the object, so that no call makes rows of its own. */
    private void gather(int set) {
        Arrays.fill(list, 0);
        Arrays.fill(kept, 0);
        for (int p = 0; p < PROGRAMS; p++) {
            if (holds(set, p)) {
                programs[p].paths().searched().calls().addTo(list, AFTER);
                programs[p].called().addTo(kept, AFTER);
            }
        }
    }

    private static boolean isProgram(int p) {
        return p >= 0 && p < PROGRAMS;
    }

    private static boolean isSet(int set) {
        return set >= 0 && set < SETS;
    }

    private static boolean isPhase(int phase) {
        return phase >= 0 && phase < PHASES;
    }

    private static boolean isValue(int value) {
        return value >= 0 && value < VALUES;
    }

    private static boolean isPower(int power) {
        return power >= 0 && power < POWERS;
    }

    private static boolean isPowers(int powers) {
        return powers >= 0 && powers < POWER_SETS;
    }

    private static boolean isInstruction(int kind, int x, int n, int to) {
        return kind >= SET && kind <= END && x >= 0 && x < REGISTERS && isValue(n) && to >= 0 && to <= CODE_MOST;
    }

    private static boolean holds(int bits, int i) {
        return (bits >>> i & 1) != 0;
    }

    /** Bits first to last; shifted down from -1, as 1 << 32 would be 1 where all bits are meant. */
    private static int side(int first, int last) {
        return (-1 >>> (HIGHEST - (last - first))) << first;
    }

    /** The instructions of a program; whoever calls looks first whether there is one of that number. */
    private static final class Code {
        private final int[] kinds = new int[CODE_MOST];
        private final int[] xs = new int[CODE_MOST];
        private final int[] ns = new int[CODE_MOST];
        private final int[] tos = new int[CODE_MOST];
        private int length;

        Code() {
            length = 0;
        }

        int length() {
            return length;
        }

        boolean has(int i) {
            return i >= 0 && i < length;
        }

        boolean isEnd(int i) {
            return !has(i) || kinds[i] == END;
        }

        int kind(int i) {
            return kinds[i];
        }

        int x(int i) {
            return xs[i];
        }

        int n(int i) {
            return ns[i];
        }

        int to(int i) {
            return tos[i];
        }

        boolean grow() {
            if (length >= CODE_MOST) {
                return false;
            }
            length++;
            return true;
        }

        void put(int i, int kind, int x, int n, int to) {
            kinds[i] = kind;
            xs[i] = x;
            ns[i] = n;
            tos[i] = to;
        }

        void become(Code other) {
            length = other.length;
            for (int i = 0; i < length; i++) {
                put(i, other.kinds[i], other.xs[i], other.ns[i], other.tos[i]);
            }
        }
    }

    /** Calls, as the bits of their arguments by phase and door. */
    private static final class CallTable {
        private final int[] rows = new int[PHASES * VALUES];

        CallTable() {
        }

        void clear() {
            Arrays.fill(rows, 0);
        }

        int arguments(int phase, int door) {
            return rows[phase * VALUES + door];
        }

        void add(int phase, int door, int arguments) {
            rows[phase * VALUES + door] |= arguments;
        }

        void addTo(int[] byDoors, int phase) {
            for (int door = 0; door < VALUES && door < byDoors.length; door++) {
                byDoors[door] |= arguments(phase, door);
            }
        }

        int callsIn(int phase) {
            int calls = 0;
            for (int door = 0; door < VALUES; door++) {
                calls += Integer.bitCount(arguments(phase, door));
            }
            return calls;
        }

        int spansIn(int phase) {
            int spans = 0;
            for (int door = 0; door < VALUES; door++) {
                spans += Integer.bitCount(firstsOf(arguments(phase, door)));
            }
            return spans;
        }

        int spanPart(int phase, int i, int what) {
            int before = 0;
            for (int door = 0; door < VALUES; door++) {
                int arguments = arguments(phase, door);
                int here = Integer.bitCount(firstsOf(arguments));
                if (i < before + here) {
                    return partOf(door, arguments, i - before, what);
                }
                before += here;
            }
            return NONE;
        }

        private static int firstsOf(int arguments) {
            return arguments & ~(arguments << 1);
        }

        private static int partOf(int door, int arguments, int i, int what) {
            switch (what) {
                case 0: return door;
                case 1: return bitNumber(firstsOf(arguments), i);
                case 2: return bitNumber(arguments & ~(arguments >>> 1), i);
                default: return NONE;
            }
        }

        private static int bitNumber(int bits, int i) {
            int before = 0;
            for (int bit = 0; bit < VALUES; bit++) {
                if (holds(bits, bit)) {
                    if (before == i) {
                        return bit;
                    }
                    before++;
                }
            }
            return NONE;
        }
    }

    /** What a search needs only while it goes on: one for all programs, as they are searched one by one. */
    private static final class Scratch {
        /** For each item of the search the numbers in register 1 that it stands for, as bits. */
        private final int[] masks = new int[Paths.MOST];
        private final int[] gone = new int[PHASES * CODE_MOST * VALUES];
        private final int[] given = new int[PHASES * CODE_MOST];

        Scratch() {
        }

        void clear() {
            Arrays.fill(gone, 0);
            Arrays.fill(given, 0);
        }

        int mask(int item) {
            return masks[item];
        }

        void keep(int item, int mask) {
            masks[item] = mask;
        }

        /** Which of these states are new; they are not so the next time. */
        int enter(int phase, int at, int first, int mask) {
            int place = (phase * CODE_MOST + at) * VALUES + first;
            int entered = mask & ~gone[place];
            gone[place] |= entered;
            return entered;
        }

        /** READ and COPY into register 0 forget what was in it, so each is gone once for each number in the other. */
        int give(int phase, int at, int mask) {
            int place = phase * CODE_MOST + at;
            int left = mask & ~given[place];
            given[place] |= left;
            return left;
        }
    }

    /**
     * All states that a program can come to, breadth first. An item is a set of states of one phase, instruction
     * and register 0 that the same row of instructions leads to, and knows the item before it. Items stand by the
     * length of their rows, then by the rows; those with the same row are a group, side by side. So the first item
     * that makes a call has the way to it.
     */
    private static final class Paths {
        /** Each item has a state that no other one has. */
        private static final int MOST = PHASES * CODE_MOST * VALUES * VALUES;
        private static final int AT_SHIFT = 5;
        private static final int PHASE_SHIFT = 10;
        private static final int OPENS_SHIFT = 11;
        private static final int PARENT_SHIFT = 12;

        private final Code code;
        private final Scratch scratch;
        private final int[] links = new int[MOST];
        private final int[] firstItems = new int[PHASES * CALLS_MOST];
        private final CallTable calls = new CallTable();
        private int size;
        private int come;
        private boolean opens;
        private boolean stale;
        /** The instruction that the group at hand stands at. */
        private int at;
        private int kind;
        private int x;
        private int n;
        private int to;

        Paths(Code code, Scratch scratch) {
            this.code = code;
            this.scratch = scratch;
            stale = true;
        }

        void forget() {
            stale = true;
        }

        CallTable calls() {
            return calls;
        }

        boolean comesTo(int i) {
            return holds(come, i);
        }

        int lengthTo(int phase, int door, int argument) {
            if (!holds(calls.arguments(phase, door), argument)) {
                return NONE;
            }
            int length = 1;
            int item = firstItems[callNumber(phase, door, argument)];
            while (item > 0 && length < MOST) {
                item = parent(item);
                length++;
            }
            return length;
        }

        int instructionTo(int phase, int door, int argument, int i) {
            int length = lengthTo(phase, door, argument);
            if (i < 0 || i >= length) {
                return NONE;
            }
            int item = firstItems[callNumber(phase, door, argument)];
            for (int back = length - 1; back > i; back--) {
                item = parent(item);
            }
            return links[item] >>> AT_SHIFT & HIGHEST;
        }

        Paths searched() {
            if (!stale) {
                return this;
            }
            stale = false;
            scratch.clear();
            calls.clear();
            size = 0;
            come = 0;
            opens = true;
            push(0, 0, 0, 0, 1);
            int end = 0;
            for (int head = 0; head < size && head < MOST; head++) {
                if (head == end) {
                    end = groupEnd(head);
                    leave(head, end);
                }
            }
            return this;
        }

        /** Goes on from a group: where it parts, the lesser instruction first, which keeps the order of rows. */
        private void leave(int head, int end) {
            fetch(links[head] >>> AT_SHIFT & HIGHEST);
            if (kind == END) {
                return;
            }
            int low = kind == GO ? to : kind == IF ? Math.min(at + 1, to) : at + 1;
            int high = kind == IF ? Math.max(at + 1, to) : low;
            opens = true;
            for (int item = head; item < end; item++) {
                step(item, low);
            }
            opens = true;
            for (int item = head; item < end && low != high; item++) {
                step(item, high);
            }
        }

        private void fetch(int instruction) {
            at = instruction;
            kind = code.kind(at);
            x = code.x(at);
            n = code.n(at);
            to = code.to(at);
        }

        /** Those states of an item that go on at that instruction do so. */
        private void step(int item, int next) {
            int link = links[item];
            int phase = link >>> PHASE_SHIFT & 1;
            int first = link & HIGHEST;
            int mask = scratch.mask(item);
            switch (kind) {
                case IF:
                    push(item, phase, next, first, goingTo(next, first, mask));
                    return;
                case GO:
                    push(item, phase, next, first, mask);
                    return;
                case CALL:
                    note(item, phase, first, mask);
                    push(item, phase, next, first, mask);
                    return;
                case POINT:
                    push(item, AFTER, next, first, mask);
                    return;
                default:
                    break;
            }
            if (x == 1) {
                push(item, phase, next, first, secondAfter(first, mask));
            } else if (kind == READ || kind == COPY) {
                int left = scratch.give(phase, at, mask);
                for (int value = 0; value < VALUES && left != 0; value++) {
                    push(item, phase, next, value, kind == READ ? left : left & 1 << value);
                }
            } else {
                push(item, phase, next, firstAfter(first), mask);
            }
        }

        private int goingTo(int next, int first, int mask) {
            int below = mask & (1 << n) - 1;
            if (x == 0) {
                below = first < n ? mask : 0;
            }
            int going = to == next ? below : 0;
            return at + 1 == next ? going | mask & ~below : going;
        }

        private int firstAfter(int first) {
            switch (kind) {
                case SET: return n;
                case ADD: return first + n & HIGHEST;
                default: return first & n;
            }
        }

        private int secondAfter(int first, int mask) {
            switch (kind) {
                case SET: return 1 << n;
                case ADD: return n == 0 ? mask : mask << n | mask >>> VALUES - n;
                case COPY: return 1 << first;
                case READ: return -1;
                default: return masked(mask, n);
            }
        }

        private static int masked(int mask, int n) {
            int after = 0;
            for (int value = 0; value < VALUES; value++) {
                if ((mask & 1 << value) != 0) {
                    after |= 1 << (value & n);
                }
            }
            return after;
        }

        private void note(int item, int phase, int door, int mask) {
            int found = mask & ~calls.arguments(phase, door);
            for (int argument = 0; argument < VALUES && found != 0; argument++) {
                if (holds(found, argument)) {
                    firstItems[callNumber(phase, door, argument)] = item;
                }
            }
            calls.add(phase, door, found);
        }

        private void push(int parent, int phase, int next, int first, int mask) {
            if (mask == 0 || size >= MOST || !code.has(next)) {
                return;
            }
            int entered = scratch.enter(phase, next, first, mask);
            if (entered == 0) {
                return;
            }
            int opening = opens ? 1 << OPENS_SHIFT : 0;
            links[size] = parent << PARENT_SHIFT | opening | phase << PHASE_SHIFT | next << AT_SHIFT | first;
            scratch.keep(size, entered);
            size++;
            come |= 1 << next;
            opens = false;
        }

        private int groupEnd(int head) {
            int end = head + 1;
            while (end < size && !holds(links[end], OPENS_SHIFT)) {
                end++;
            }
            return end;
        }

        private int parent(int item) {
            return links[item] >>> PARENT_SHIFT;
        }

        private static int callNumber(int phase, int door, int argument) {
            return (phase * VALUES + door) * VALUES + argument;
        }
    }

    /** A code, what runs of it called, and its paths, which every change of the code makes stale. */
    private static final class Program {
        private final Code code;
        private final Paths paths;
        private final CallTable called = new CallTable();

        Program(Code code, Paths paths) {
            this.code = code;
            this.paths = paths;
        }

        Code instructions() {
            return code;
        }

        CallTable called() {
            return called;
        }

        Paths paths() {
            return paths;
        }

        int append(int kind, int x, int n, int to) {
            if (!code.grow()) {
                return NONE;
            }
            int i = code.length() - 1;
            replace(i, kind, x, n, to);
            return i;
        }

        boolean replace(int i, int kind, int x, int n, int to) {
            if (!code.has(i)) {
                return false;
            }
            code.put(i, kind, x, n, to);
            paths.forget();
            return true;
        }

        void takeCodeOf(Program other) {
            code.become(other.code);
            paths.forget();
        }
    }

    private static final class Tape {
        private final int[] bytes = new int[TAPE_MOST];
        private int size;

        Tape() {
            size = 0;
        }

        int size() {
            return size;
        }

        boolean hasRoom(int more) {
            return size + more <= TAPE_MOST;
        }

        void addWord(int word) {
            for (int shift = 24; shift >= 0 && size < TAPE_MOST; shift -= 8) {
                bytes[size] = word >>> shift & 255;
                size++;
            }
        }

        int valueAt(int i) {
            return i >= 0 && i < size ? bytes[i] & HIGHEST : 0;
        }

        void empty() {
            size = 0;
        }
    }

    /** Performs one run at a time. */
    private static final class Machine {
        private final int[] registers = new int[REGISTERS];
        private int at;
        private int phase;
        private int taken;
        private int calls;
        private int latestEnd;

        Machine() {
            latestEnd = NONE;
        }

        int latestEnd() {
            return latestEnd;
        }

        int perform(Code code, Tape tape, int bytes, CallTable called) {
            Arrays.fill(registers, 0);
            at = 0;
            phase = 0;
            taken = 0;
            calls = 0;
            int end = NONE;
            for (int done = 0; done <= RUN_MOST && end == NONE; done++) {
                end = endAfter(done, code, bytes);
                if (end == NONE) {
                    step(code, tape, called);
                }
            }
            latestEnd = end;
            return calls;
        }

        /** END is no instruction, so it is met behind the last one that a run may make, too. */
        private int endAfter(int done, Code code, int bytes) {
            if (code.isEnd(at)) {
                return BY_END;
            }
            if (done >= RUN_MOST) {
                return BY_MOST;
            }
            return code.kind(at) == READ && taken >= bytes ? BY_NO_BYTE : NONE;
        }

        private void step(Code code, Tape tape, CallTable called) {
            int next = at + 1;
            switch (code.kind(at)) {
                case IF:
                    at = registers[code.x(at)] < code.n(at) ? code.to(at) : next;
                    return;
                case GO:
                    at = code.to(at);
                    return;
                case CALL:
                    called.add(phase, registers[0], 1 << registers[1]);
                    calls++;
                    break;
                case POINT:
                    phase = AFTER;
                    break;
                default:
                    write(code, tape);
            }
            at = next;
        }

        private void write(Code code, Tape tape) {
            int x = code.x(at);
            int n = code.n(at);
            switch (code.kind(at)) {
                case SET:
                    registers[x] = n;
                    break;
                case ADD:
                    registers[x] = registers[x] + n & HIGHEST;
                    break;
                case COPY:
                    registers[x] = registers[1 - x];
                    break;
                case MASK:
                    registers[x] &= n;
                    break;
                default:
                    registers[x] = tape.valueAt(taken);
                    taken++;
            }
        }
    }

    /** The effects of the house, and what a stranger comes to by them. */
    private static final class House {
        private final int[] doors = new int[EFFECTS_MOST];
        private final int[] arguments = new int[EFFECTS_MOST];
        private final int[] takes = new int[EFFECTS_MOST];
        private final int[] gives = new int[EFFECTS_MOST];
        private final int[] left = new int[VALUES];
        private int size;

        House() {
            size = 0;
        }

        int size() {
            return size;
        }

        int append(int door, int side, int taking, int giving) {
            if (size >= EFFECTS_MOST) {
                return NONE;
            }
            doors[size] = door;
            arguments[size] = side;
            takes[size] = taking;
            gives[size] = giving;
            size++;
            return size - 1;
        }

        /** Each round but the last uses an effect that the one before could not, so as many as effects are enough. */
        int powersBy(int[] list) {
            int powers = 0;
            for (int round = 0; round < size; round++) {
                int before = powers;
                for (int e = 0; e < size; e++) {
                    if (callsOf(e, list) != 0 && (takes[e] & ~powers) == 0) {
                        powers |= gives[e];
                    }
                }
                if (powers == before) {
                    return powers;
                }
            }
            return powers;
        }

        /** The best effects to cut, as bits; tried from the least on, so that of like ones the first stays. */
        int leastCut(int[] list, int[] kept, int power) {
            int allowed = cuttable(list, kept);
            takeOut(list, allowed);
            if (holds(powersBy(left), power)) {
                return NONE;
            }
            int best = allowed;
            int fewest = CALLS_MOST + 1;
            for (int cut = 0; cut <= allowed && fewest > 0; cut++) {
                if ((cut & ~allowed) == 0) {
                    int calls = takeOut(list, cut);
                    boolean better = calls < fewest
                            || calls == fewest && Integer.bitCount(cut) < Integer.bitCount(best);
                    if (better && !holds(powersBy(left), power)) {
                        best = cut;
                        fewest = calls;
                    }
                }
            }
            return best;
        }

        /** Fills the row of what is left of a list, and tells how many calls were taken out. */
        int takeOut(int[] list, int cut) {
            System.arraycopy(list, 0, left, 0, VALUES);
            int calls = 0;
            for (int e = 0; e < size; e++) {
                if (holds(cut, e)) {
                    int out = callsOf(e, left);
                    calls += Integer.bitCount(out);
                    left[doors[e]] &= ~out;
                }
            }
            return calls;
        }

        /** Effects without a call in the list are left out: to cut them takes nothing out and costs an effect. */
        private int cuttable(int[] list, int[] kept) {
            int cuttable = 0;
            for (int e = 0; e < size; e++) {
                int calls = callsOf(e, list);
                if (calls != 0 && (calls & kept[doors[e]]) == 0) {
                    cuttable |= 1 << e;
                }
            }
            return cuttable;
        }

        private int callsOf(int e, int[] list) {
            return list[doors[e]] & arguments[e];
        }
    }
}
