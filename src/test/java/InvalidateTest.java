/** Code that is written over, also by the block that runs. */
public final class InvalidateTest {
    public static void main(String[] args) {
        endsBehindTheWriter();
        sameByteCounts();
        otherPagesStay();
        allPlacesOfAPage();
        byCall();
        byPushAndInterpreted();
        noExitFromOneThatIsGone();
        codeIsSeenAnew();
        Check.finish();
    }

    /** LDI A 1; ST A at 8, over the STOP that ends its own block: OUT stands there then. */
    private static void endsBehindTheWriter() {
        BlockCache x = Check.with(0x90, 1, 0xB1, 8, 0x10, 0x10, 0x10, 0x10, 0x00, 0x00);
        Check.same("run", x.run(20), 8);
        Check.same("the new code was run", x.get(9), 10);
        Check.counts("the block ended behind ST", x, 1, 1, 3, 2, 4, 1, 6, 2, 7, 0, 10, 1);
        BlockCache y = Check.with(0x90, 1, 0xB1, 8, 0x10, 0x10, 0x10, 0x10, 0x00, 0x00);
        Check.same("as many as the block had", y.run(7), 7);
        // At 4 six instructions are left in the block, and five in the run.
        Check.counts("it was begun, the rest is interpreted", y, 3, 6, 4, 1, 7, 5, 11, 0);
    }

    private static void sameByteCounts() {
        BlockCache x = Check.with(0xB1, 31, 0x00);
        x.run(2);
        Check.counts("writing the 0 that is there", x, 4, 1, 3, 2, 1, 1);
    }

    private static void otherPagesStay() {
        BlockCache x = new BlockCache();
        // Blocks at 30 (in page 0 and 1), 40 (page 1) and 64 (page 2).
        Check.load(x, 30, 0x90, 5, 0x00);
        for (int place : new int[] {30, 40, 64}) {
            x.set(9, place);
            x.run(5);
        }
        Check.counts("three", x, 1, 3, 3, 3);
        Check.load(x, 100, 0xB1, 63, 0x00);
        x.set(9, 100);
        x.run(2);
        Check.counts("page 1 is written", x, 1, 2, 4, 2, 3, 4);
        x.set(9, 64);
        x.run(1);
        Check.counts("page 2 stayed", x, 3, 4);
    }

    /** One-byte blocks at every place of pages 2 to 4; one byte of page 3 is written. */
    private static void allPlacesOfAPage() {
        BlockCache x = new BlockCache();
        // 96 of size 1, and the writer's block, which has 5.
        x.room(101);
        for (int place = 64; place < 160; place++) {
            x.set(9, place);
            x.run(1);
        }
        Check.counts("a STOP at each place", x, 1, 96, 2, 96);
        Check.load(x, 0, 0xB1, 100, 0x00);
        x.set(9, 0);
        x.run(2);
        Check.counts("32 are gone", x, 1, 96 - 32 + 1, 2, 96 - 32 + 5, 4, 32, 5, 0);
    }

    /** CALL pushes into its own page: no exit. */
    private static void byCall() {
        BlockCache x = Check.with(0xD0, 64);
        x.set(4, 32);
        x.run(2);
        Check.counts("CALL's own page", x, 4, 1, 1, 1, 6, 2);
        x.set(9, 0);
        x.set(4, 32);
        x.run(2);
        Check.counts("no link", x, 4, 2, 1, 1, 3, 3, 6, 4);
        BlockCache y = Check.with(0xD0, 64);
        y.set(4, 65);
        y.run(2);
        y.set(9, 0);
        y.set(4, 65);
        y.run(2);
        Check.counts("the called block's page", y, 4, 1, 1, 2, 3, 3, 6, 4);
    }

    private static void byPushAndInterpreted() {
        BlockCache x = Check.with(0xE0, 0x10, 0x10, 0x00);
        x.set(4, 20);
        Check.same("run", x.run(9), 4);
        Check.counts("PUSH", x, 4, 1, 3, 2, 7, 0);
        BlockCache y = Check.with(0xE0, 0x10, 0x10, 0x00);
        y.set(4, 20);
        y.run(1);
        Check.counts("an interpreted PUSH", y, 4, 1, 3, 1, 7, 1, 1, 0, 2, 0);
    }

    /** The eighth is ST into the own page: gone as it ends. */
    private static void noExitFromOneThatIsGone() {
        BlockCache x = Check.with(0x10, 0x10, 0x10, 0x10, 0x10, 0x10, 0x10, 0xB1, 31, 0x00);
        for (int i = 1; i <= 3; i++) {
            x.set(9, 0);
            Check.same("run", x.run(9), 9);
            Check.same("lookups", x.count(6), 2 * i);
        }
    }

    /** A loop that counts its own LDI's n up: each turn sees the new n. */
    private static void codeIsSeenAnew() {
        // LDI A n; OUT; ADDI A 1; ST A at 1; JMP 0
        BlockCache x = Check.with(0x90, 0, 0x01, 0x91, 1, 0xB1, 1, 0xC0, 0);
        x.run(5 * 20);
        for (int k = 0; k < 20; k++) {
            Check.same("output " + k, x.output(k), k);
        }
        // Each turn ends the block at 0, and that at 7 of the turn before.
        Check.counts("anew each turn", x, 4, 20 + 19, 3, 40, 7, 0);
    }
}
