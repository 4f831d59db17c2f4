/** What each instruction does, both run in a block and interpreted. */
public final class InstructionTest {
    private static final int[] VALUES = {0, 1, 2, 15, 16, 127, 128, 129, 200, 254, 255};

    public static void main(String[] args) {
        arithmetic();
        shifts();
        withTheSameRegister();
        moves();
        loadAndStore();
        jumps();
        callsAndStack();
        countDown();
        interruptsOnAndOff();
        flagsStay();
        Check.finish();
    }

    /** Runs one instruction with a STOP behind it: as a block of two, or interpreted in a run of one. */
    private static BlockCache once(boolean interpreted, int c, int a, int b, int... bytes) {
        BlockCache x = Check.with(bytes);
        x.set(0, a);
        x.set(1, b);
        x.set(6, c);
        x.run(interpreted ? 1 : 2);
        Check.counts("how it was run", x, 0, interpreted ? 1 : 2, 7, interpreted ? 1 : 0);
        return x;
    }

    private static void due(String what, BlockCache x, int a, int zero, int carry, int negative) {
        Check.same(what + " A", x.get(0), a);
        Check.same(what + " Z", x.get(5), zero);
        Check.same(what + " C", x.get(6), carry);
        Check.same(what + " N", x.get(7), negative);
    }

    private static void made(String what, BlockCache x, int kept, int result, boolean carry) {
        due(what, x, kept, (result & 255) == 0 ? 1 : 0, carry ? 1 : 0, (result & 128) != 0 ? 1 : 0);
    }

    private static void arithmetic() {
        for (int a : VALUES) {
            for (int b : VALUES) {
                for (int i = 0; i < 4; i++) {
                    int c = i & 1;
                    boolean alone = i >= 2;
                    String on = a + " with " + b + " C " + c;
                    made("ADD " + on, once(alone, c, a, b, 0x21, 0), (a + b) & 255, a + b, a + b > 255);
                    made("ADC " + on, once(alone, c, a, b, 0x31, 0), (a + b + c) & 255, a + b + c, a + b + c > 255);
                    made("SUB " + on, once(alone, c, a, b, 0x41, 0), (a - b) & 255, a - b, a < b);
                    made("CMP " + on, once(alone, c, a, b, 0x51, 0), a, a - b, a < b);
                    made("AND " + on, once(alone, c, a, b, 0x61, 0), a & b, a & b, false);
                    made("XOR " + on, once(alone, c, a, b, 0x71, 0), a ^ b, a ^ b, false);
                    made("ADDI " + on, once(alone, c, a, 3, 0x91, b, 0), (a + b) & 255, a + b, a + b > 255);
                    made("CMPI " + on, once(alone, c, a, 3, 0x92, b, 0), a, a - b, a < b);
                    made("XORI " + on, once(alone, c, a, 3, 0x93, b, 0), a ^ b, a ^ b, false);
                }
            }
        }
    }

    private static void shifts() {
        for (int a : VALUES) {
            for (int c = 0; c <= 1; c++) {
                shift(true, a, c);
                shift(false, a, c);
            }
        }
    }

    private static void shift(boolean alone, int a, int c) {
        boolean high = a >= 128;
        boolean low = a % 2 == 1;
        made("SHL " + a, once(alone, c, a, 0, 0x80, 0), (a * 2) & 255, a * 2, high);
        made("SHR " + a, once(alone, c, a, 0, 0x81, 0), a / 2, a / 2, low);
        made("ROL " + a, once(alone, c, a, 0, 0x82, 0), (a * 2 + c) & 255, a * 2 + c, high);
        made("ROR " + a, once(alone, c, a, 0, 0x83, 0), a / 2 + 128 * c, a / 2 + 128 * c, low);
    }

    private static void withTheSameRegister() {
        made("ADD A, A", once(false, 0, 200, 0, 0x20, 0), 144, 144, true);
        made("SUB A, A", once(false, 1, 200, 0, 0x40, 0), 0, 0, false);
        made("XOR A, A", once(false, 1, 200, 0, 0x70, 0), 0, 0, false);
    }

    private static void moves() {
        for (int d = 0; d < 4; d++) {
            for (int s = 0; s < 4; s++) {
                BlockCache x = Check.with(0x10 | d << 2 | s, 0);
                for (int r = 0; r < 4; r++) {
                    x.set(r, 10 + r);
                }
                x.run(2);
                for (int r = 0; r < 4; r++) {
                    Check.same("MOV " + d + ", " + s + ": register " + r, x.get(r), r == d ? 10 + s : 10 + r);
                }
            }
            BlockCache y = Check.with(0x90 | d << 2, 99, 0);
            y.run(2);
            Check.same("LDI " + d, y.get(d), 99);
        }
        BlockCache z = Check.with(0x02, 0x01, 0x00);
        z.input(44);
        z.run(3);
        Check.same("IN to A", z.get(0), 44);
        Check.same("OUT A", z.output(0), 44);
    }

    private static void loadAndStore() {
        // LD D, B + 200; ST D, C + 250
        BlockCache x = Check.with(0xAD, 200, 0xBE, 250, 0);
        x.poke(4 + 200, 0x77000000, 1);
        x.set(1, 4);
        x.set(2, 100);
        x.run(3);
        Check.same("LD", x.get(3), 0x77);
        Check.same("ST goes round", x.peek(94), 0x77);
        BlockCache y = Check.with(0xAD, 200, 0);
        y.poke(44, 0x12000000, 1);
        y.set(1, 100);
        y.run(2);
        Check.same("LD goes round", y.get(3), 0x12);
    }

    private static void jumps() {
        for (int w = 0; w <= 6; w++) {
            for (int flags = 0; flags < 8; flags++) {
                BlockCache x = Check.with(0xC0 | w, 77);
                int z = flags & 1;
                int c = flags >> 1 & 1;
                int n = flags >> 2;
                x.set(5, z);
                x.set(6, c);
                x.set(7, n);
                x.run(1);
                int[] taken = {1, z, 1 - z, c, 1 - c, n, 1 - n};
                Check.same("JMP w " + w + " flags " + flags, x.get(9), taken[w] == 1 ? 77 : 2);
                Check.same("flags stay", x.get(5) + 2 * x.get(6) + 4 * x.get(7), flags);
            }
        }
        BlockCache y = new BlockCache();
        Check.load(y, 255, 0xC0, 33);
        y.set(9, 255);
        y.run(1);
        Check.same("n stands at 0", y.get(9), 33);
        BlockCache v = new BlockCache();
        Check.load(v, 255, 0xC1, 33);
        v.set(9, 255);
        v.run(1);
        Check.same("not taken, PC goes round", v.get(9), 1);
    }

    private static void callsAndStack() {
        BlockCache x = Check.with(0xD0, 64);
        Check.load(x, 64, 0xD1);
        x.run(1);
        Check.same("CALL", x.get(9), 64);
        Check.same("SP", x.get(4), 255);
        Check.same("the place behind", x.peek(255), 2);
        x.run(1);
        Check.same("RET", x.get(9), 2);
        Check.same("SP", x.get(4), 0);
        // PUSH D, POP B, with SP 0
        BlockCache y = Check.with(0xEC, 0xE5, 0xE5, 0x00);
        y.poke(0x80, 0, 1);
        y.set(3, 55);
        y.run(2);
        Check.same("POP what was pushed", y.get(1), 55);
        Check.same("SP", y.get(4), 0);
        Check.same("pushed", y.peek(255), 55);
        y.run(1);
        Check.same("POP at 0", y.get(1), 0xEC);
        Check.same("SP", y.get(4), 1);
        BlockCache z = new BlockCache();
        Check.load(z, 254, 0xD0, 64);
        z.set(9, 254);
        z.set(4, 200);
        z.run(1);
        Check.same("the place behind goes round", z.peek(199), 0);
        // PUSH writes over CALL's own n: the n that was there is taken.
        BlockCache own = Check.with(0xD0, 64);
        own.set(4, 2);
        own.run(1);
        Check.same("CALL over its n", own.get(9), 64);
        Check.same("its n is written", own.peek(1), 2);
    }

    private static void countDown() {
        for (int d = 0; d < 4; d++) {
            BlockCache x = Check.with(0xF0 | d << 2, 50);
            x.set(d, 1);
            x.run(1);
            Check.same("DJNZ to 0: behind", x.get(9), 2);
            Check.same("DJNZ to 0", x.get(d), 0);
            x.set(9, 0);
            x.run(1);
            Check.same("DJNZ from 0: n", x.get(9), 50);
            Check.same("DJNZ from 0", x.get(d), 255);
        }
    }

    private static void interruptsOnAndOff() {
        BlockCache x = Check.with(0x03, 0x04, 0x00);
        x.run(1);
        Check.same("EI", x.get(8), 1);
        x.run(2);
        Check.same("DI", x.get(8), 0);
    }

    /** MOV, LDI, LD, ST, PUSH, POP, OUT, IN, EI, DI, DJNZ, JMP, CALL, RET, STOP. */
    private static void flagsStay() {
        int[][] codes = {{0x11}, {0x90, 0}, {0xA1, 200}, {0xB1, 200}, {0xE0}, {0xE1}, {0x01}, {0x02}, {0x03},
            {0x04}, {0xF0, 9}, {0xC0, 9}, {0xD0, 9}, {0xD1}, {0x00}};
        for (int[] code : codes) {
            for (int flags = 0; flags < 8; flags++) {
                BlockCache x = Check.with(code);
                x.set(4, 128);
                x.set(5, flags & 1);
                x.set(6, flags >> 1 & 1);
                x.set(7, flags >> 2);
                x.run(1);
                Check.same("flags after " + code[0], x.get(5) + 2 * x.get(6) + 4 * x.get(7), flags);
            }
        }
    }
}
