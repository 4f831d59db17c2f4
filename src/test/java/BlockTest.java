/** Where blocks end, which flags are dead, and how large blocks are. */
public final class BlockTest {
    public static void main(String[] args) {
        sizesAlone();
        deadOnes();
        whereBlocksEnd();
        aBlockGoesRound();
        keptThoughBehindItChanges();
        Check.finish();
    }

    /** Translates the block of these bytes: its size and how many dead flags it has. */
    private static void block(String what, int size, int dead, int... bytes) {
        BlockCache x = new BlockCache();
        Check.load(x, 64, bytes);
        x.room(400);
        x.set(9, 64);
        x.set(4, 200);
        x.set(0, 100);
        x.run(1);
        x.room(400);
        int before = x.count(9);
        x.set(9, 64);
        x.run(1);
        // A run of one looks at the block at 64 alone.
        Check.counts(what, x, 1, 1, 2, size, 9, before + dead);
    }

    /** Each with a STOP (1) behind it, or alone where it ends the block. */
    private static void sizesAlone() {
        int[] one = {0x10, 0x01, 0x02, 0x04, 0xE0, 0xE1};
        for (int code : one) {
            block("size 1, code " + code, 2, 0, code, 0);
        }
        block("STOP", 1, 0, 0);
        block("EI ends otherwise", 2, 0, 0x03);
        block("LDI", 2, 0, 0x90, 9, 0);
        block("LD", 5, 0, 0xA0, 9, 0);
        block("ST", 5, 0, 0xB0, 150, 0);
        block("ADD", 6, 0, 0x21, 0);
        block("ADC", 7, 0, 0x31, 0);
        block("SUB", 6, 0, 0x41, 0);
        block("CMP", 6, 0, 0x51, 0);
        block("AND", 5, 0, 0x61, 0);
        block("XOR", 5, 0, 0x71, 0);
        block("SHL", 6, 0, 0x80, 0);
        block("SHR", 5, 0, 0x81, 0);
        block("ROL", 7, 0, 0x82, 0);
        block("ROR", 8, 0, 0x83, 0);
        block("ADDI", 7, 0, 0x91, 1, 0);
        block("CMPI", 7, 0, 0x92, 1, 0);
        block("XORI", 6, 0, 0x93, 1, 0);
        block("JMP always", 1, 0, 0xC0, 9);
        for (int w = 1; w <= 6; w++) {
            block("JMP " + w, 3, 0, 0xC0 | w, 9);
        }
        block("CALL", 3, 0, 0xD0, 9);
        block("RET", 2, 0, 0xD1);
        block("DJNZ", 4, 0, 0xF0, 9);
    }

    /** An AND behind it (4, then STOP 1) makes flags dead. */
    private static void deadOnes() {
        block("ADD", 2 + 5, 1, 0x21, 0x61, 0);
        block("ADC", 3 + 5, 1, 0x31, 0x61, 0);
        block("SUB", 2 + 5, 1, 0x41, 0x61, 0);
        block("CMP is 0", 5, 1, 0x51, 0x61, 0);
        block("AND", 1 + 5, 1, 0x61, 0x61, 0);
        block("XOR", 1 + 5, 1, 0x71, 0x61, 0);
        block("SHL", 2 + 5, 1, 0x80, 0x61, 0);
        block("SHR", 1 + 5, 1, 0x81, 0x61, 0);
        block("ROL", 3 + 5, 1, 0x82, 0x61, 0);
        block("ROR", 3 + 5, 1, 0x83, 0x61, 0);
        block("ADDI", 3 + 5, 1, 0x91, 1, 0x61, 0);
        block("CMPI is 0", 5, 1, 0x92, 1, 0x61, 0);
        block("XORI", 2 + 5, 1, 0x93, 1, 0x61, 0);
        int[] harmless = {0x10, 0x01, 0x02, 0x04, 0xE1};
        for (int code : harmless) {
            block("with " + code + " between", 1 + 1 + 5, 1, 0x61, code, 0x61, 0);
        }
        block("with LDI between", 1 + 1 + 5, 1, 0x61, 0x90, 1, 0x61, 0);
        block("with LD between", 1 + 4 + 5, 1, 0x61, 0xA0, 1, 0x61, 0);
        block("with ST between", 4 + 4 + 5, 0, 0x61, 0xB0, 100, 0x61, 0);
        block("with PUSH between", 4 + 1 + 5, 0, 0x61, 0xE0, 0x61, 0);
        block("ADC reads", 4 + 6 + 1, 0, 0x61, 0x31, 0);
        block("ROL reads", 4 + 6 + 1, 0, 0x61, 0x82, 0);
        block("ROR reads", 4 + 7 + 1, 0, 0x61, 0x83, 0);
        block("ADC reads, AND makes", 4 + 3 + 4 + 1, 1, 0x61, 0x31, 0x61, 0);
        block("CMP makes", 1 + 5 + 1, 1, 0x61, 0x51, 0);
        block("CMPI makes", 1 + 6 + 1, 1, 0x61, 0x92, 0, 0);
        block("the end of the block is no maker", 1 + 4 + 3, 1, 0x61, 0x61, 0xC1, 9);
        block("seven dead ones", 7 + 4 + 1, 7, 0x61, 0x61, 0x61, 0x61, 0x61, 0x61, 0x61, 0x61);
        block("the ninth is not in it", 8 + 4, 0, 0x61, 0x10, 0x10, 0x10, 0x10, 0x10, 0x10, 0x10, 0x61);
    }

    private static void whereBlocksEnd() {
        block("before BAD", 2 + 1, 0, 0x10, 0x10, 0x05);
        block("with the eighth", 8 + 1, 0, 0x10, 0x10, 0x10, 0x10, 0x10, 0x10, 0x10, 0x10, 0x10, 0x10);
        block("the eighth is JMP", 7 + 1, 0, 0x10, 0x10, 0x10, 0x10, 0x10, 0x10, 0x10, 0xC0, 9);
        block("the eighth is STOP", 7 + 1, 0, 0x10, 0x10, 0x10, 0x10, 0x10, 0x10, 0x10, 0x00);
        block("the eighth is EI", 7 + 1 + 1, 0, 0x10, 0x10, 0x10, 0x10, 0x10, 0x10, 0x10, 0x03);
        block("EI", 1 + 1 + 1, 0, 0x10, 0x03, 0x10, 0x10);
        block("DI does not", 1 + 1 + 1, 0, 0x10, 0x04, 0x00);
        block("JMP not taken", 1 + 3, 0, 0x10, 0xC1, 9, 0x10, 0x10);
        block("CALL", 1 + 3, 0, 0x10, 0xD0, 9, 0x10, 0x10);
        block("RET", 1 + 2, 0, 0x10, 0xD1, 0x10, 0x10);
        block("DJNZ", 1 + 4, 0, 0x10, 0xF0, 9, 0x10, 0x10);
        BlockCache bad = Check.with(0x05);
        bad.run(1);
        Check.counts("BAD first: no block", bad, 1, 0, 2, 0, 3, 0, 6, 1);
    }

    private static void aBlockGoesRound() {
        BlockCache x = new BlockCache();
        Check.load(x, 250, 0x90, 1, 0x91, 2, 0x91, 3, 0x91, 4, 0x00);
        x.set(9, 250);
        Check.same("run", x.run(9), 5);
        Check.same("A", x.get(0), 10);
        Check.counts("one block", x, 1, 1, 6, 1, 7, 0);
        x.poke(31, 0, 1);
        Check.counts("it has bytes in page 0", x, 1, 0);
        x.set(9, 250);
        x.run(9);
        x.poke(224, 0, 1);
        Check.counts("it has bytes in page 7", x, 1, 0);
    }

    /** The BAD byte behind a block is not in it: if it changes the block stays as it is. */
    private static void keptThoughBehindItChanges() {
        BlockCache x = new BlockCache();
        Check.load(x, 30, 0x10, 0x10, 0x05);
        x.set(9, 30);
        Check.same("ends before BAD", x.run(9), 2);
        Check.load(x, 32, 0x10, 0x00);
        x.set(9, 30);
        Check.same("runs on", x.run(9), 4);
        Check.counts("two blocks", x, 1, 2, 3, 2, 2, 3 + 2);
    }
}
