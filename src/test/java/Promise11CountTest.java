public final class Promise11CountTest {
    public static void main(String[] args) {
        BlockCache x = new BlockCache();
        Check.argument("-1", () -> x.count(-1));
        Check.argument("12", () -> x.count(12));
        Check.argument("least", () -> x.count(Integer.MIN_VALUE));
        Check.argument("greatest", () -> x.count(Integer.MAX_VALUE));
        everyCountMoves();
        deadOnesOfTranslatedBlocksAlone();
        lastRunsEnd();
        Check.finish();
    }

    /** ADD, SUB (DEAD, not), OUT, ST B at C + 32 into page 1, where the second block is, JMP 40. */
    private static void everyCountMoves() {
        BlockCache x = Check.with(0x21, 0x41, 0x01, 0xB6, 32, 0xC0, 40);
        Check.load(x, 40, 0x10, 0xC0, 0);
        x.run(7);
        // 2 + 5 + 1 + 4 + 1 and 1 + 1
        Check.counts("both run", x, 0, 7, 1, 2, 2, 15, 3, 2, 4, 0, 5, 0, 6, 2, 7, 0, 8, 0, 9, 1, 10, 1, 11, 0);
        x.run(7);
        Check.counts("page 1 is written", x, 0, 14, 1, 2, 2, 15, 3, 3, 4, 1, 6, 4, 9, 1, 10, 2);
        x.room(13);
        x.run(7);
        Check.counts("each flushes the other", x, 0, 21, 1, 1, 2, 2, 3, 5, 4, 1, 5, 1, 6, 6, 9, 2, 10, 3);
        x.run(1);
        Check.counts("one interpreted", x, 0, 22, 1, 1, 2, 13, 3, 6, 5, 2, 6, 7, 7, 1, 9, 3);
        x.set(8, 1);
        x.request(22);
        x.run(1);
        Check.counts("interrupt", x, 0, 23, 8, 1, 11, 1);
    }

    private static void deadOnesOfTranslatedBlocksAlone() {
        // ADD, ADD, ADD, STOP: 2 + 2 + 5 + 1
        BlockCache x = Check.with(0x21, 0x21, 0x21, 0x00);
        x.room(9);
        x.run(1);
        Check.counts("too large: not translated", x, 1, 0, 3, 0, 9, 0);
        x.room(10);
        x.set(9, 0);
        x.run(1);
        Check.counts("translated, though not run", x, 1, 1, 2, 10, 3, 1, 7, 2, 9, 2);
    }

    private static void lastRunsEnd() {
        BlockCache x = Check.with(0x00, 0x10, 0x10, 0x0F);
        x.run(9);
        Check.counts("STOP", x, 11, 1);
        x.run(1);
        Check.counts("all run", x, 11, 0);
        x.run(9);
        Check.counts("BAD", x, 11, 2);
        x.set(9, 1);
        x.run(2);
        Check.counts("all run", x, 11, 0);
    }
}
