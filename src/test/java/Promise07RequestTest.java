public final class Promise07RequestTest {
    public static void main(String[] args) {
        countsThoseNotGone();
        mustBeAboveAllSoFar();
        mustNotBeBelowThoseRun();
        atMostSixteen();
        theGreatestNumber();
        refusedOnesDoNotCount();
        Check.finish();
    }

    /** NOP-like MOV A, A in a loop, and a STOP where interrupts come. */
    private static BlockCache loop() {
        return Check.with(0x10, 0x10, 0xC0, 0x00);
    }

    private static void countsThoseNotGone() {
        BlockCache x = loop();
        x.set(8, 1);
        x.set(4, 128);
        Check.same("first", x.request(4), 1);
        Check.same("second", x.request(7), 2);
        x.run(4);
        Check.same("none came yet", x.request(8), 3);
        x.run(1);
        Check.counts("one came", x, 8, 1);
        Check.same("one is gone", x.request(Integer.MAX_VALUE), 3);
    }

    private static void mustBeAboveAllSoFar() {
        BlockCache x = loop();
        x.request(3);
        Check.argument("the same", () -> x.request(3));
        Check.argument("below", () -> x.request(2));
        Check.same("above", x.request(4), 2);
        BlockCache y = loop();
        y.poke(240, 0x0F000000, 1);
        y.set(8, 1);
        y.set(4, 128);
        Check.same("at 0", y.request(0), 1);
        Check.same("the interrupt meets BAD", y.run(1), 0);
        Check.argument("the same as one that is gone", () -> y.request(0));
        Check.same("above one that is gone", y.request(1), 1);
    }

    private static void mustNotBeBelowThoseRun() {
        BlockCache x = loop();
        Check.argument("-1", () -> x.request(-1));
        Check.argument("least", () -> x.request(Integer.MIN_VALUE));
        x.run(5);
        Check.argument("4 of 5", () -> x.request(4));
        Check.same("5 of 5", x.request(5), 1);
    }

    private static void theGreatestNumber() {
        BlockCache x = loop();
        Check.same("0", x.request(0), 1);
        Check.same("the greatest", x.request(Integer.MAX_VALUE), 2);
        Check.argument("nothing is above it", () -> x.request(Integer.MAX_VALUE));
        Check.argument("one below it", () -> x.request(Integer.MAX_VALUE - 1));
        x.run(5000);
        Check.counts("it keeps no block from being run", x, 0, 5000, 7, 2);
    }

    /** What was refused is not among "all so far". */
    private static void refusedOnesDoNotCount() {
        BlockCache x = loop();
        x.run(10);
        Check.argument("9", () -> x.request(9));
        Check.same("10", x.request(10), 1);
        Check.argument("10 again", () -> x.request(10));
        for (int i = 1; i < 16; i++) {
            Check.same("more", x.request(10 + i), 1 + i);
        }
        Check.state("full", () -> x.request(500));
        Check.state("full", () -> x.request(26));
        x.set(4, 128);
        x.set(8, 1);
        x.run(1);
        Check.same("26, though 500 was refused", x.request(26), 16);
    }

    private static void atMostSixteen() {
        BlockCache x = loop();
        x.set(4, 128);
        for (int i = 1; i <= 16; i++) {
            Check.same("request " + i, x.request(10 * i), i);
        }
        Check.state("a 17th", () -> x.request(1000));
        Check.argument("a 17th that is not above", () -> x.request(160));
        x.run(20);
        Check.state("those that are there are not gone", () -> x.request(1000));
        x.set(8, 1);
        x.run(1);
        Check.same("one is gone; 1000 was not taken before", x.request(999), 16);
        Check.counts("one interrupt", x, 8, 1);
    }
}
