import java.util.Arrays;

/**
 * Runs the code of a small guest machine by translated blocks, which are kept in a cache of
 * limited room and linked to one another.
 */
public final class BlockCache {
    public static final int NONE = -1;

    private static final int ALL_RUN = 0;
    private static final int STOPPED = 1;
    private static final int MET_BAD = 2;

    private static final int MOST_REQUESTS = 16;
    private static final int MOST_ROOM = 400;
    private static final int MOST_RUN = 5000;

    private final Guest guest;
    private final Cache cache;
    private final Queue requests;
    private int latestRequest;
    private int executed;
    private int invalidated;
    private int lookups;
    private int interpreted;
    private int interrupts;
    private int ending;
    /** The exit by which the block before this turn ended, or NONE. */
    private int exit;

    public BlockCache() {
        guest = new Guest();
        cache = new Cache();
        requests = new Queue(MOST_REQUESTS);
        latestRequest = NONE;
        exit = NONE;
    }

    public void poke(int place, int bytes, int many) throws IllegalArgumentException {
        if (!isByte(place) || many < 1 || many > 4) {
            throw new IllegalArgumentException();
        }
        for (int i = 0; i < many; i++) {
            int at = (place + i) & 255;
            guest.memory[at] = (bytes >>> (24 - 8 * i)) & 255;
            cache.dropPage(at / Cache.PAGE);
        }
    }

    public int peek(int place) throws IllegalArgumentException {
        if (!isByte(place)) {
            throw new IllegalArgumentException();
        }
        return guest.memory[place];
    }

    public void set(int what, int value) throws IllegalArgumentException {
        if (!isState(what) || !isByte(value) || (isOneBit(what) && value > 1)) {
            throw new IllegalArgumentException();
        }
        guest.state[what] = value;
    }

    public int get(int what) throws IllegalArgumentException {
        if (!isState(what)) {
            throw new IllegalArgumentException();
        }
        return guest.state[what];
    }

    public int input(int value) throws IllegalArgumentException, IllegalStateException {
        if (!isByte(value)) {
            throw new IllegalArgumentException();
        }
        if (guest.inputs.isFull()) {
            throw new IllegalStateException();
        }
        guest.inputs.append(value);
        return guest.inputs.many;
    }

    public int request(int number) throws IllegalArgumentException, IllegalStateException {
        if (number <= latestRequest || number < executed) {
            throw new IllegalArgumentException();
        }
        if (requests.isFull()) {
            throw new IllegalStateException();
        }
        requests.append(number);
        latestRequest = number;
        return requests.many;
    }

    public void room(int size) throws IllegalArgumentException {
        if (size < 1 || size > MOST_ROOM) {
            throw new IllegalArgumentException();
        }
        cache.limit = size;
        cache.empty();
    }

    public int run(int many) throws IllegalArgumentException {
        if (many < 1 || many > MOST_RUN) {
            throw new IllegalArgumentException();
        }
        int before = executed;
        ending = ALL_RUN;
        exit = NONE;
        // Every turn runs an instruction or ends the run, so many turns are enough.
        for (int turn = 0; turn < many; turn++) {
            int left = many - (executed - before);
            if (left <= 0 || ending != ALL_RUN) {
                break;
            }
            takeTurn(left);
        }
        return executed - before;
    }

    public int output(int k) {
        return guest.outputAt(k);
    }

    public int count(int what) throws IllegalArgumentException {
        switch (what) {
            case 0: return executed;
            case 1: return cache.blocks;
            case 2: return cache.filled;
            case 3: return cache.translated;
            case 4: return invalidated;
            case 5: return cache.flushes;
            case 6: return lookups;
            case 7: return interpreted;
            case 8: return interrupts;
            case 9: return cache.deadFlags;
            case 10: return guest.given;
            case 11: return ending;
            default: throw new IllegalArgumentException();
        }
    }

    private static boolean isByte(int value) {
        return value >= 0 && value <= 255;
    }

    private static boolean isState(int what) {
        return what >= 0 && what <= Guest.PC;
    }

    private static boolean isOneBit(int what) {
        return what >= Guest.ZERO && what <= Guest.ON;
    }

    private void takeTurn(int left) {
        interruptIfDue();
        int place = guest.state[Guest.PC];
        if (findBlock(place) && mayRunWhole(cache.length[place], left)) {
            runBlock(place);
        } else {
            interpret(place);
        }
    }

    private void interruptIfDue() {
        if (guest.state[Guest.ON] == 0 || requests.many == 0 || requests.first() > executed) {
            return;
        }
        requests.takeFirst();
        interrupts++;
        guest.interrupt();
        dropWritten();
        exit = NONE;
    }

    private boolean findBlock(int place) {
        if (cache.isLinked(exit, place)) {
            return true;
        }
        lookups++;
        return cache.has(place) || cache.translate(guest.memory, place);
    }

    private boolean mayRunWhole(int length, int left) {
        return length <= left && !requestComes(executed + length - 1);
    }

    /** Whether a request that is not there yet is there once so many instructions were run. */
    private boolean requestComes(int atMost) {
        for (int i = 0; i < requests.many; i++) {
            int number = requests.at(i);
            if (number > executed && number <= atMost) {
                return true;
            }
        }
        return false;
    }

    private void runBlock(int place) {
        cache.link(exit, place);
        int length = cache.length[place];
        // A block that writes over its own page is gone, and must not go on with stale code.
        for (int i = 0; i < length && cache.has(place); i++) {
            perform(cache.wordAt(place, i));
        }
        exit = cache.has(place) ? cache.exitTo(place, guest.state[Guest.PC]) : NONE;
    }

    private void interpret(int place) {
        exit = NONE;
        int word = Code.decode(guest.memory, place);
        if (Code.kind(word) == Code.BAD) {
            ending = MET_BAD;
            return;
        }
        interpreted++;
        perform(word);
    }

    private void perform(int word) {
        guest.execute(word);
        executed++;
        dropWritten();
        if (Code.kind(word) == Code.STOP) {
            ending = STOPPED;
        }
    }

    private void dropWritten() {
        if (guest.written != NONE) {
            invalidated += cache.dropPage(guest.written / Cache.PAGE);
            guest.written = NONE;
        }
    }

    /**
     * The host's code: an instruction as one word, which holds its kind, the guest's w, its n and
     * whether its flags are dead.
     */
    private static final class Code {
        static final int BAD = 0;
        static final int STOP = 1;
        static final int OUT = 2;
        static final int IN = 3;
        static final int EI = 4;
        static final int DI = 5;
        static final int MOV = 6;
        static final int ADD = 7;
        static final int ADC = 8;
        static final int SUB = 9;
        static final int CMP = 10;
        static final int AND = 11;
        static final int XOR = 12;
        static final int SHL = 13;
        static final int SHR = 14;
        static final int ROL = 15;
        static final int ROR = 16;
        static final int LDI = 17;
        static final int ADDI = 18;
        static final int CMPI = 19;
        static final int XORI = 20;
        static final int LD = 21;
        static final int ST = 22;
        static final int JMP = 23;
        static final int JMP_IF = 24;
        static final int CALL = 25;
        static final int RET = 26;
        static final int PUSH = 27;
        static final int POP = 28;
        static final int DJNZ = 29;

        private static final int DEAD = 1 << 20;

        static int decode(int[] memory, int place) {
            int byteHere = memory[place & 255];
            int byteBehind = memory[(place + 1) & 255];
            return kindOf(byteHere) << 12 | (byteHere & 15) << 8 | byteBehind;
        }

        private static int kindOf(int byteHere) {
            int operation = byteHere >> 4;
            int w = byteHere & 15;
            int s = byteHere & 3;
            switch (operation) {
                case 0: return w <= 4 ? STOP + w : BAD;
                case 8: return SHL + s;
                case 9: return LDI + s;
                case 10: return LD;
                case 11: return ST;
                case 12: return w == 0 ? JMP : w <= 6 ? JMP_IF : BAD;
                case 13: return w == 0 ? CALL : w == 1 ? RET : BAD;
                case 14: return s == 0 ? PUSH : s == 1 ? POP : BAD;
                case 15: return s == 0 ? DJNZ : BAD;
                // 1 to 7 are numbered in the order of their kinds.
                default: return MOV + operation - 1;
            }
        }

        static int kind(int word) {
            return word >> 12 & 31;
        }

        static int w(int word) {
            return word >> 8 & 15;
        }

        static int d(int word) {
            return word >> 10 & 3;
        }

        static int s(int word) {
            return word >> 8 & 3;
        }

        static int n(int word) {
            return word & 255;
        }

        static boolean isDead(int word) {
            return (word & DEAD) != 0;
        }

        static int asDead(int word) {
            return word | DEAD;
        }

        static int bytes(int kind) {
            switch (kind) {
                case LDI: case ADDI: case CMPI: case XORI: case LD: case ST:
                case JMP: case JMP_IF: case CALL: case DJNZ:
                    return 2;
                default:
                    return 1;
            }
        }

        static boolean endsBlock(int kind) {
            return kind == EI || leavesByItself(kind);
        }

        /** Whether a block that ends with it needs nothing more to go on elsewhere. */
        static boolean leavesByItself(int kind) {
            switch (kind) {
                case STOP: case JMP: case JMP_IF: case CALL: case RET: case DJNZ:
                    return true;
                default:
                    return false;
            }
        }

        static boolean makesFlags(int kind) {
            return (kind >= ADD && kind <= ROR) || (kind >= ADDI && kind <= XORI);
        }

        static boolean onlyCompares(int kind) {
            return kind == CMP || kind == CMPI;
        }

        /** Whether flags must be right where it stands: it reads them, or a block may end at it. */
        static boolean needsFlags(int kind) {
            switch (kind) {
                case ADC: case ROL: case ROR: case JMP_IF: case ST: case PUSH: case CALL:
                    return true;
                default:
                    return false;
            }
        }

        static int size(int word) {
            int kind = kind(word);
            if (!makesFlags(kind)) {
                return sizeWithoutFlags(kind);
            }
            if (isDead(word)) {
                return onlyCompares(kind) ? 0 : sizeWithoutFlags(kind);
            }
            return sizeWithoutFlags(kind) + (kind == ROR ? 4 : 3);
        }

        private static int sizeWithoutFlags(int kind) {
            switch (kind) {
                case ADD: case SUB: case CMP: case SHL: case XORI: case RET:
                    return 2;
                case ADC: case ROL: case ROR: case ADDI: case CMPI: case CALL: case JMP_IF:
                    return 3;
                case LD: case ST: case DJNZ:
                    return 4;
                default:
                    return 1;
            }
        }
    }

    /** The guest: its state by the numbers of set and get, its memory, and its bytes in and out. */
    private static final class Guest {
        static final int SP = 4;
        static final int ZERO = 5;
        static final int CARRY = 6;
        static final int NEGATIVE = 7;
        static final int ON = 8;
        static final int PC = 9;

        private static final int INTERRUPT_PLACE = 240;
        private static final int MOST_INPUTS = 32;
        private static final int MOST_OUTPUTS = 100;

        final int[] state = new int[10];
        final int[] memory = new int[256];
        final Queue inputs = new Queue(MOST_INPUTS);
        private final int[] outputs = new int[MOST_OUTPUTS];
        int given;
        /** The place that was written and is not yet told to the cache, or NONE. */
        int written = NONE;

        int outputAt(int k) {
            return k >= 0 && k < given && k < MOST_OUTPUTS ? outputs[k] : NONE;
        }

        void interrupt() {
            state[ON] = 0;
            push(state[PC]);
            state[PC] = INTERRUPT_PLACE;
        }

        void execute(int word) {
            int kind = Code.kind(word);
            state[PC] = (state[PC] + Code.bytes(kind)) & 255;
            if (Code.makesFlags(kind)) {
                calculate(kind, word);
            } else if (Code.endsBlock(kind)) {
                steer(kind, word);
            } else {
                move(kind, word);
            }
        }

        private void calculate(int kind, int word) {
            boolean dead = Code.isDead(word);
            boolean compares = Code.onlyCompares(kind);
            if (dead && compares) {
                return;
            }
            int left = state[Code.d(word)];
            int right = Code.bytes(kind) == 2 ? Code.n(word) : state[Code.s(word)];
            int result = resultWithCarry(kind, left, right);
            if (!compares) {
                state[Code.d(word)] = result & 255;
            }
            if (!dead) {
                makeFlags(result);
            }
        }

        /** What comes, with the carry, the borrow or the bit that goes out as bit 8. */
        private int resultWithCarry(int kind, int left, int right) {
            switch (kind) {
                case Code.ADD: case Code.ADDI: return left + right;
                case Code.ADC: return left + right + state[CARRY];
                case Code.AND: return left & right;
                case Code.XOR: case Code.XORI: return left ^ right;
                case Code.SHL: return left << 1;
                case Code.SHR: return left >> 1 | (left & 1) << 8;
                case Code.ROL: return left << 1 | state[CARRY];
                case Code.ROR: return left >> 1 | state[CARRY] << 7 | (left & 1) << 8;
                // SUB, CMP, CMPI: below 0 all higher bits are 1, so bit 8 is the borrow.
                default: return left - right;
            }
        }

        private void makeFlags(int result) {
            state[ZERO] = (result & 255) == 0 ? 1 : 0;
            state[CARRY] = result >> 8 & 1;
            state[NEGATIVE] = result >> 7 & 1;
        }

        private void steer(int kind, int word) {
            switch (kind) {
                case Code.EI:
                    state[ON] = 1;
                    break;
                case Code.JMP:
                    state[PC] = Code.n(word);
                    break;
                case Code.JMP_IF:
                    jumpIf(Code.w(word), Code.n(word));
                    break;
                case Code.CALL:
                    push(state[PC]);
                    state[PC] = Code.n(word);
                    break;
                case Code.RET:
                    state[PC] = pop();
                    break;
                case Code.DJNZ:
                    countDown(Code.d(word), Code.n(word));
                    break;
                default:
                    break;
            }
        }

        /** w from 1 to 6: Z, not Z, C, not C, N, not N. */
        private void jumpIf(int w, int n) {
            int flag = w <= 2 ? ZERO : w <= 4 ? CARRY : NEGATIVE;
            if (state[flag] == (w & 1)) {
                state[PC] = n;
            }
        }

        private void countDown(int d, int n) {
            state[d] = (state[d] - 1) & 255;
            if (state[d] != 0) {
                state[PC] = n;
            }
        }

        private void move(int kind, int word) {
            int d = Code.d(word);
            int address = (state[Code.s(word)] + Code.n(word)) & 255;
            switch (kind) {
                case Code.OUT:
                    give(state[0]);
                    break;
                case Code.IN:
                    state[0] = inputs.many == 0 ? 0 : inputs.takeFirst();
                    break;
                case Code.DI:
                    state[ON] = 0;
                    break;
                case Code.MOV:
                    state[d] = state[Code.s(word)];
                    break;
                case Code.LDI:
                    state[d] = Code.n(word);
                    break;
                case Code.LD:
                    state[d] = memory[address];
                    break;
                case Code.ST:
                    write(address, state[d]);
                    break;
                case Code.PUSH:
                    push(state[d]);
                    break;
                case Code.POP:
                    state[d] = pop();
                    break;
                default:
                    break;
            }
        }

        private void give(int value) {
            if (given >= 0 && given < MOST_OUTPUTS) {
                outputs[given] = value;
            }
            given++;
        }

        private void push(int value) {
            state[SP] = (state[SP] - 1) & 255;
            write(state[SP], value);
        }

        private int pop() {
            int value = memory[state[SP]];
            state[SP] = (state[SP] + 1) & 255;
            return value;
        }

        private void write(int place, int value) {
            memory[place] = value;
            written = place;
        }
    }

    /**
     * The blocks, in rows by the place where they begin. The rows are made once, so that
     * translating makes no objects.
     */
    private static final class Cache {
        static final int PAGE = 32;

        private static final int PLACES = 256;
        private static final int MOST_LENGTH = 8;
        private static final int MOST_BYTES = 2 * MOST_LENGTH;
        private static final int FIRST_LIMIT = 100;

        private final int[] code = new int[PLACES * MOST_LENGTH];
        final int[] length = new int[PLACES];
        private final int[] behind = new int[PLACES];
        private final int[] size = new int[PLACES];
        /** Which translation the block is, from 1 on; 0 if there is none in the cache. */
        private final int[] serial = new int[PLACES];
        /** Two a block: the place to which the exit goes, or NONE. */
        private final int[] exitPlace = new int[2 * PLACES];
        /** Two a block: the serial of the linked block. It holds only while that serial does. */
        private final int[] linkedSerial = new int[2 * PLACES];
        int limit = FIRST_LIMIT;
        int blocks;
        int filled;
        int translated;
        int flushes;
        int deadFlags;

        boolean has(int place) {
            return serial[place] != 0;
        }

        int wordAt(int place, int i) {
            return code[place * MOST_LENGTH + i];
        }

        /** Keeps the block at a place if there is one that the limit allows. */
        boolean translate(int[] memory, int place) {
            decodeBlock(memory, place);
            int dead = markDead(place);
            size[place] = sizeOf(place);
            if (length[place] == 0 || size[place] > limit) {
                return false;
            }
            if (filled + size[place] > limit) {
                empty();
                flushes++;
            }
            translated++;
            deadFlags += dead;
            serial[place] = translated;
            blocks++;
            filled += size[place];
            layExits(place);
            return true;
        }

        private void decodeBlock(int[] memory, int place) {
            int at = place;
            int many = 0;
            for (int i = 0; i < MOST_LENGTH; i++) {
                int word = Code.decode(memory, at);
                int kind = Code.kind(word);
                if (kind == Code.BAD) {
                    break;
                }
                code[place * MOST_LENGTH + i] = word;
                many++;
                at = (at + Code.bytes(kind)) & 255;
                if (Code.endsBlock(kind)) {
                    break;
                }
            }
            length[place] = many;
            behind[place] = at;
        }

        /** Marks the instructions whose flags are dead: how many. */
        private int markDead(int place) {
            int dead = 0;
            boolean madeAnew = false;
            for (int i = length[place] - 1; i >= 0; i--) {
                int word = wordAt(place, i);
                int kind = Code.kind(word);
                boolean makes = Code.makesFlags(kind);
                if (makes && madeAnew) {
                    code[place * MOST_LENGTH + i] = Code.asDead(word);
                    dead++;
                }
                madeAnew = !Code.needsFlags(kind) && (makes || madeAnew);
            }
            return dead;
        }

        private int sizeOf(int place) {
            int sum = Code.leavesByItself(lastKind(place)) ? 0 : 1;
            for (int i = 0; i < length[place]; i++) {
                sum += Code.size(wordAt(place, i));
            }
            return sum;
        }

        private int lastKind(int place) {
            return length[place] == 0 ? Code.BAD : Code.kind(wordAt(place, length[place] - 1));
        }

        private void layExits(int place) {
            int last = wordAt(place, length[place] - 1);
            int kind = Code.kind(last);
            boolean goesToN = Code.leavesByItself(kind) && Code.bytes(kind) == 2;
            boolean goesBehind = kind == Code.JMP_IF || kind == Code.DJNZ || !Code.leavesByItself(kind);
            exitPlace[2 * place] = goesToN ? Code.n(last) : NONE;
            exitPlace[2 * place + 1] = goesBehind ? behind[place] : NONE;
            linkedSerial[2 * place] = 0;
            linkedSerial[2 * place + 1] = 0;
        }

        /** A block's exit to a place, or NONE. Where n is the place behind, both ends are one exit. */
        int exitTo(int place, int target) {
            if (exitPlace[2 * place] == target) {
                return 2 * place;
            }
            return exitPlace[2 * place + 1] == target ? 2 * place + 1 : NONE;
        }

        boolean isLinked(int exit, int target) {
            return exit != NONE && has(target) && linkedSerial[exit] == serial[target];
        }

        /** Links an exit, unless its block is gone since it ended. */
        void link(int exit, int target) {
            if (exit != NONE && has(exit / 2)) {
                linkedSerial[exit] = serial[target];
            }
        }

        /** Removes the blocks that have a byte in a page: how many. */
        int dropPage(int page) {
            int before = blocks;
            int first = page * PAGE - (MOST_BYTES - 1);
            for (int i = 0; i < PAGE + MOST_BYTES - 1; i++) {
                int place = (first + i) & 255;
                if (has(place) && reaches(place, page)) {
                    serial[place] = 0;
                    blocks--;
                    filled -= size[place];
                }
            }
            return before - blocks;
        }

        /** A block is shorter than a page, so it has no page but its first and its last byte's. */
        private boolean reaches(int place, int page) {
            int lastByte = (behind[place] - 1) & 255;
            return place / PAGE == page || lastByte / PAGE == page;
        }

        void empty() {
            Arrays.fill(serial, 0);
            blocks = 0;
            filled = 0;
        }
    }

    /** A ring of numbers with a fixed number of places. Its users ask many and isFull first. */
    private static final class Queue {
        private final int[] ring;
        private int start;
        int many;

        Queue(int most) {
            ring = new int[most];
        }

        boolean isFull() {
            return many >= ring.length;
        }

        int at(int i) {
            return ring[wrapped(start + i)];
        }

        int first() {
            return ring[start];
        }

        void append(int value) {
            ring[wrapped(start + many)] = value;
            many++;
        }

        int takeFirst() {
            int value = ring[start];
            start = wrapped(start + 1);
            many--;
            return value;
        }

        private int wrapped(int index) {
            return index < ring.length ? index : index - ring.length;
        }
    }
}
