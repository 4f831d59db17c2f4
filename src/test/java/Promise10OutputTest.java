public final class Promise10OutputTest {
    public static void main(String[] args) {
        // OUT; ADDI A 3; JMP 0
        BlockCache x = Check.with(0x01, 0x91, 3, 0xC0, 0);
        x.run(3 * 99 + 1);
        Check.counts("given", x, 10, 100);
        for (int k = 0; k < 100; k++) {
            Check.same("output(" + k + ")", x.output(k), (3 * k) & 255);
        }
        x.run(300);
        Check.counts("given", x, 10, 200);
        Check.same("output(99)", x.output(99), (3 * 99) & 255);
        Check.same("output(0)", x.output(0), 0);
        Check.same("output(100): the first 100 alone", x.output(100), -1);
        Check.same("output(-1)", x.output(-1), -1);
        Check.same("output(greatest)", x.output(Integer.MAX_VALUE), -1);
        Check.same("output(least)", x.output(Integer.MIN_VALUE), -1);
        BlockCache y = Check.with(0x01, 0x00);
        Check.same("none yet", y.output(0), -1);
        y.set(0, 200);
        y.run(2);
        Check.same("one", y.output(0), 200);
        Check.same("no second", y.output(1), -1);
        aboutAHundred();
        Check.finish();
    }

    /** 98 to 102 bytes are given: those are there, up to the hundredth. */
    private static void aboutAHundred() {
        for (int given = 98; given <= 102; given++) {
            BlockCache x = Check.with(0x01, 0x91, 1, 0xC0, 0);
            x.run(3 * (given - 1) + 1);
            Check.counts("given", x, 10, given);
            for (int k = 96; k <= 103; k++) {
                boolean isThere = k < given && k < 100;
                Check.same("output(" + k + ") of " + given, x.output(k), isThere ? k : BlockCache.NONE);
            }
        }
    }
}
