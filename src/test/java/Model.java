import java.util.ArrayDeque;
import java.util.ArrayList;
import java.util.HashMap;
import java.util.Iterator;
import java.util.List;
import java.util.Map;
import java.util.TreeSet;

/**
 * The document once more, as plainly as can be: blocks and links are objects, flags are always made,
 * and a block keeps the instructions that it was translated from.
 */
final class Model {
    static final class Op {
        String name = "BAD";
        int d;
        int s;
        int w;
        int n;
        int place;
        int behind;
        boolean hasN;

        boolean is(String names) {
            return (" " + names + " ").contains(" " + name + " ");
        }

        boolean makes() {
            return is("ADD ADC SUB CMP AND XOR SHL SHR ROL ROR ADDI CMPI XORI");
        }

        boolean reads() {
            return is("ADC ROL ROR JZ JNZ JC JNC JN JNN");
        }
    }

    static final class Block {
        final List<Op> ops = new ArrayList<>();
        final TreeSet<Integer> pages = new TreeSet<>();
        final Map<Integer, Block> links = new HashMap<>();
        int size;
        int dead;
    }

    static final String[] JUMPS = {"JMP", "JZ", "JNZ", "JC", "JNC", "JN", "JNN"};

    final int[] memory = new int[256];
    final int[] registers = new int[4];
    int sp;
    boolean z;
    boolean c;
    boolean n;
    boolean on;
    int pc;
    int room = 100;
    final Map<Integer, Block> cache = new HashMap<>();
    final ArrayDeque<Integer> inputs = new ArrayDeque<>();
    final List<Integer> outputs = new ArrayList<>();
    final TreeSet<Integer> requests = new TreeSet<>();
    int greatestRequest = -1;
    int ran;
    int translated;
    int invalidated;
    int flushes;
    int lookups;
    int interpreted;
    int interrupts;
    int dead;
    int end;
    /** Links that were used, for the test to see that it meets them. */
    int followed;

    Op decode(int place) {
        Op op = new Op();
        int code = memory[place];
        op.place = place;
        op.w = code % 16;
        op.d = op.w / 4;
        op.s = op.w % 4;
        op.n = memory[(place + 1) % 256];
        String[] names;
        switch (code / 16) {
            case 0: names = new String[] {"STOP", "OUT", "IN", "EI", "DI"}; op.name = pick(names, op.w); break;
            case 1: op.name = "MOV"; break;
            case 2: op.name = "ADD"; break;
            case 3: op.name = "ADC"; break;
            case 4: op.name = "SUB"; break;
            case 5: op.name = "CMP"; break;
            case 6: op.name = "AND"; break;
            case 7: op.name = "XOR"; break;
            case 8: op.name = pick(new String[] {"SHL", "SHR", "ROL", "ROR"}, op.s); break;
            case 9: op.name = pick(new String[] {"LDI", "ADDI", "CMPI", "XORI"}, op.s); op.hasN = true; break;
            case 10: op.name = "LD"; op.hasN = true; break;
            case 11: op.name = "ST"; op.hasN = true; break;
            case 12: op.name = pick(JUMPS, op.w); op.hasN = true; break;
            case 13: op.name = pick(new String[] {"CALL", "RET"}, op.w); op.hasN = op.w == 0; break;
            case 14: op.name = pick(new String[] {"PUSH", "POP"}, op.s); break;
            default: op.name = op.s == 0 ? "DJNZ" : "BAD"; op.hasN = true; break;
        }
        op.behind = (place + (op.hasN ? 2 : 1)) % 256;
        return op;
    }

    private static String pick(String[] names, int i) {
        return i < names.length ? names[i] : "BAD";
    }

    Block blockAt(int place) {
        Block b = new Block();
        int at = place;
        while (b.ops.size() < 8) {
            Op op = decode(at);
            if (op.is("BAD")) {
                break;
            }
            b.ops.add(op);
            b.pages.add(op.place / 32);
            if (op.hasN) {
                b.pages.add((op.place + 1) % 256 / 32);
            }
            at = op.behind;
            if (op.is("STOP EI CALL RET DJNZ") || op.is(String.join(" ", JUMPS))) {
                break;
            }
        }
        if (b.ops.isEmpty()) {
            return null;
        }
        for (int i = 0; i < b.ops.size(); i++) {
            boolean isDead = b.ops.get(i).makes() && deadAt(b, i);
            b.dead += isDead ? 1 : 0;
            b.size += size(b.ops.get(i), isDead);
        }
        Op last = b.ops.get(b.ops.size() - 1);
        if (!last.is("STOP CALL RET DJNZ") && !last.is(String.join(" ", JUMPS))) {
            b.size++;
        }
        return b;
    }

    /** Is there a later maker such that nobody up to and with it reads, or is ST, PUSH, CALL? */
    private boolean deadAt(Block b, int i) {
        for (int j = i + 1; j < b.ops.size(); j++) {
            if (b.ops.get(j).makes()) {
                boolean asked = false;
                for (int k = i + 1; k <= j; k++) {
                    asked |= b.ops.get(k).reads() || b.ops.get(k).is("ST PUSH CALL");
                }
                if (!asked) {
                    return true;
                }
            }
        }
        return false;
    }

    private int size(Op op, boolean isDead) {
        if (isDead && op.is("CMP CMPI")) {
            return 0;
        }
        int size;
        if (op.is("MOV SHR LDI OUT IN EI DI STOP PUSH POP AND XOR JMP")) {
            size = 1;
        } else if (op.is("ADD SUB CMP SHL XORI RET")) {
            size = 2;
        } else if (op.is("ADC ROL ROR ADDI CMPI CALL JZ JNZ JC JNC JN JNN")) {
            size = 3;
        } else if (op.is("LD ST DJNZ")) {
            size = 4;
        } else {
            throw new AssertionError(op.name);
        }
        return op.makes() && !isDead ? size + (op.is("ROR") ? 4 : 3) : size;
    }

    void write(int place, int value) {
        memory[place] = value;
        invalidated += drop(place);
    }

    private int drop(int place) {
        int many = 0;
        Iterator<Block> all = cache.values().iterator();
        while (all.hasNext()) {
            if (all.next().pages.contains(place / 32)) {
                all.remove();
                many++;
            }
        }
        return many;
    }

    private void push(int value) {
        sp = (sp + 255) % 256;
        write(sp, value);
    }

    private int pop() {
        int value = memory[sp];
        sp = (sp + 1) % 256;
        return value;
    }

    private void flags(int value, boolean carry) {
        z = value == 0;
        n = value >= 128;
        c = carry;
    }

    private void put(int d, int value, boolean carry) {
        registers[d] = value;
        flags(value, carry);
    }

    void execute(Op op) {
        ran++;
        pc = op.behind;
        int x = registers[op.d];
        int y = op.is("ADDI CMPI XORI") ? op.n : registers[op.s];
        int at = (registers[op.s] + op.n) % 256;
        int in = c ? 1 : 0;
        switch (op.name) {
            case "STOP": end = 1; break;
            case "OUT": outputs.add(registers[0]); break;
            case "IN": registers[0] = inputs.isEmpty() ? 0 : inputs.removeFirst(); break;
            case "EI": on = true; break;
            case "DI": on = false; break;
            case "MOV": registers[op.d] = y; break;
            case "ADD": case "ADDI": put(op.d, (x + y) % 256, x + y >= 256); break;
            case "ADC": put(op.d, (x + y + in) % 256, x + y + in >= 256); break;
            case "SUB": put(op.d, (x - y + 256) % 256, x < y); break;
            case "CMP": case "CMPI": flags((x - y + 256) % 256, x < y); break;
            case "AND": put(op.d, x & y, false); break;
            case "XOR": case "XORI": put(op.d, x ^ y, false); break;
            case "SHL": put(op.d, x * 2 % 256, x >= 128); break;
            case "SHR": put(op.d, x / 2, x % 2 == 1); break;
            case "ROL": put(op.d, x * 2 % 256 + in, x >= 128); break;
            case "ROR": put(op.d, x / 2 + 128 * in, x % 2 == 1); break;
            case "LDI": registers[op.d] = op.n; break;
            case "LD": registers[op.d] = memory[at]; break;
            case "ST": write(at, x); break;
            case "JMP": pc = op.n; break;
            case "JZ": pc = z ? op.n : pc; break;
            case "JNZ": pc = !z ? op.n : pc; break;
            case "JC": pc = c ? op.n : pc; break;
            case "JNC": pc = !c ? op.n : pc; break;
            case "JN": pc = n ? op.n : pc; break;
            case "JNN": pc = !n ? op.n : pc; break;
            case "CALL": push(pc); pc = op.n; break;
            case "RET": pc = pop(); break;
            case "PUSH": push(x); break;
            case "POP": registers[op.d] = pop(); break;
            case "DJNZ":
                registers[op.d] = (x + 255) % 256;
                pc = registers[op.d] != 0 ? op.n : pc;
                break;
            default: throw new AssertionError(op.name);
        }
    }

    int run(int many) {
        int start = ran;
        Block from = null;
        end = 0;
        while (ran - start < many && end == 0) {
            if (on && !requests.isEmpty() && requests.first() <= ran) {
                requests.pollFirst();
                interrupts++;
                on = false;
                push(pc);
                pc = 240;
                from = null;
            }
            int place = pc;
            Block b = from == null ? null : from.links.get(place);
            if (b != null && cache.get(place) == b) {
                followed++;
            } else {
                b = lookUp(place);
            }
            boolean whole = b != null && b.ops.size() <= many - (ran - start)
                && requests.subSet(ran, false, ran + b.ops.size() - 1, true).isEmpty();
            if (whole) {
                if (from != null && cache.containsValue(from)) {
                    from.links.put(place, b);
                }
                from = runWhole(place, b);
            } else {
                from = null;
                Op op = decode(place);
                if (op.is("BAD")) {
                    end = 2;
                } else {
                    interpreted++;
                    execute(op);
                }
            }
        }
        return ran - start;
    }

    private Block lookUp(int place) {
        lookups++;
        if (cache.containsKey(place)) {
            return cache.get(place);
        }
        Block b = blockAt(place);
        if (b == null || b.size > room) {
            return null;
        }
        if (filled() + b.size > room) {
            cache.clear();
            flushes++;
        }
        translated++;
        dead += b.dead;
        cache.put(place, b);
        return b;
    }

    /** The block if it ended by an exit, or null. */
    private Block runWhole(int place, Block b) {
        Op last = b.ops.get(b.ops.size() - 1);
        for (Op op : b.ops) {
            execute(op);
            if (cache.get(place) != b) {
                return null;
            }
        }
        return last.is("RET STOP") ? null : b;
    }

    int filled() {
        int sum = 0;
        for (Block b : cache.values()) {
            sum += b.size;
        }
        return sum;
    }

    void poke(int place, int bytes, int many) {
        for (int i = 0; i < many; i++) {
            int at = (place + i) % 256;
            memory[at] = (bytes >>> 24 - 8 * i) & 255;
            drop(at);
        }
    }

    void set(int what, int value) {
        switch (what) {
            case 4: sp = value; break;
            case 5: z = value == 1; break;
            case 6: c = value == 1; break;
            case 7: n = value == 1; break;
            case 8: on = value == 1; break;
            case 9: pc = value; break;
            default: registers[what] = value; break;
        }
    }

    int get(int what) {
        int[] all = {registers[0], registers[1], registers[2], registers[3], sp,
            z ? 1 : 0, c ? 1 : 0, n ? 1 : 0, on ? 1 : 0, pc};
        return all[what];
    }

    /** The answer, or -1 for IllegalState. */
    int input(int value) {
        if (inputs.size() == 32) {
            return -1;
        }
        inputs.add(value);
        return inputs.size();
    }

    /** The answer, or -1 for IllegalState, -2 for IllegalArgument. */
    int request(int number) {
        if (number <= greatestRequest || number < ran) {
            return -2;
        }
        if (requests.size() == 16) {
            return -1;
        }
        greatestRequest = number;
        requests.add(number);
        return requests.size();
    }

    void room(int size) {
        room = size;
        cache.clear();
    }

    int output(int k) {
        return k < outputs.size() && k < 100 ? outputs.get(k) : -1;
    }

    int count(int what) {
        int[] all = {ran, cache.size(), filled(), translated, invalidated, flushes, lookups, interpreted,
            interrupts, dead, outputs.size(), end};
        return all[what];
    }
}
