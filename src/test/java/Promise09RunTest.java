public final class Promise09RunTest {
    public static void main(String[] args) {
        howManyWereRun();
        endsWithStop();
        endsBeforeBad();
        allRunComesFirst();
        tooFewLeft();
        fiveHundredAndTwelveCalls();
        wrongArguments();
        Check.finish();
    }

    private static void howManyWereRun() {
        BlockCache x = Check.with(0xC0, 0);
        Check.same("1", x.run(1), 1);
        Check.same("5000", x.run(5000), 5000);
        Check.counts("in all", x, 0, 5001, 11, 0);
    }

    private static void endsWithStop() {
        BlockCache x = Check.with(0x10, 0x10, 0x00, 0x10, 0x00);
        Check.same("with STOP", x.run(50), 3);
        Check.same("PC behind it", x.get(9), 3);
        Check.counts("STOP", x, 11, 1);
        Check.same("goes on behind", x.run(50), 2);
        Check.same("PC behind it", x.get(9), 5);
        Check.counts("STOP", x, 11, 1, 0, 5);
        BlockCache y = new BlockCache();
        y.set(9, 255);
        y.run(1);
        Check.same("PC goes round", y.get(9), 0);
        BlockCache z = Check.with(0x10, 0x10, 0x00);
        z.run(2);
        Check.counts("all run", z, 11, 0);
        z.run(1);
        Check.counts("STOP as the last of those asked for", z, 11, 1);
    }

    private static void endsBeforeBad() {
        int[] bad = {0x05, 0x0F, 0xC7, 0xCF, 0xD2, 0xDF, 0xE2, 0xE3, 0xEE, 0xEF, 0xF1, 0xF2, 0xF3, 0xFD, 0xFF};
        for (int code : bad) {
            BlockCache x = Check.with(0x10, code);
            Check.same("before BAD " + code, x.run(50), 1);
            Check.same("PC at BAD " + code, x.get(9), 1);
            Check.counts("BAD " + code, x, 0, 1, 1, 1, 2, 2, 3, 1, 6, 2, 7, 0, 11, 2);
            Check.same("once more", x.run(50), 0);
            Check.counts("BAD again", x, 6, 3, 7, 0, 11, 2);
        }
    }

    private static void allRunComesFirst() {
        BlockCache x = Check.with(0x10, 0x05);
        Check.same("run", x.run(1), 1);
        Check.counts("all run, though BAD is next", x, 11, 0, 6, 1);
        BlockCache y = Check.with(0x10, 0x10);
        y.set(8, 1);
        y.request(1);
        y.room(1);
        y.run(1);
        Check.counts("no interrupt once all are run", y, 8, 0);
        Check.same("PC", y.get(9), 1);
    }

    /** Eight MOVs and on: a block of 8 is not begun with 7 left. */
    private static void tooFewLeft() {
        BlockCache x = new BlockCache();
        for (int i = 0; i < 32; i += 4) {
            x.poke(i, 0x10101010, 4);
        }
        Check.same("7", x.run(7), 7);
        Check.counts("all interpreted", x, 3, 7, 6, 7, 7, 7);
        x.room(100);
        x.set(9, 0);
        Check.same("8", x.run(8), 8);
        Check.counts("one block", x, 3, 8, 6, 8, 7, 7);
    }

    /** As much as an object is ever asked for: the longest run in all its calls but the last two. */
    private static void fiveHundredAndTwelveCalls() {
        BlockCache x = new BlockCache();
        // OUT; JMP 0
        x.poke(0, 0x01C00000, 3);
        for (int i = 0; i < 509; i++) {
            Check.same("run(5000)", x.run(5000), 5000);
        }
        Check.same("the 511th call", x.count(0), 509 * 5000);
        Check.same("the 512th call", x.count(10), 509 * 2500);
    }

    private static void wrongArguments() {
        BlockCache x = new BlockCache();
        x.run(1);
        String before = Check.visible(x);
        Check.argument("0", () -> x.run(0));
        Check.argument("-1", () -> x.run(-1));
        Check.argument("5001", () -> x.run(5001));
        Check.argument("greatest", () -> x.run(Integer.MAX_VALUE));
        Check.argument("least", () -> x.run(Integer.MIN_VALUE));
        Check.sameText("what throws changes nothing", Check.visible(x), before);
    }
}
