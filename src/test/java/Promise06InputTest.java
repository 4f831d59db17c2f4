public final class Promise06InputTest {
    public static void main(String[] args) {
        readInOrder();
        atMostThirtyTwo();
        goesRoundManyTimes();
        Check.finish();
    }

    /** IN; OUT; IN; OUT; IN; OUT; STOP */
    private static void readInOrder() {
        BlockCache x = Check.with(2, 1, 2, 1, 2, 1, 0);
        Check.same("first", x.input(255), 1);
        Check.same("second", x.input(0), 2);
        x.run(1);
        Check.same("one is read", x.input(9), 2);
        x.run(100);
        Check.same("output 0", x.output(0), 255);
        Check.same("output 1", x.output(1), 0);
        Check.same("output 2", x.output(2), 9);
        Check.same("all are read", x.input(3), 1);
        Check.argument("-1", () -> x.input(-1));
        Check.argument("256", () -> x.input(256));
        Check.argument("least", () -> x.input(Integer.MIN_VALUE));
        Check.argument("greatest", () -> x.input(Integer.MAX_VALUE));
        Check.same("what throws changes nothing", x.input(3), 2);
    }

    private static void atMostThirtyTwo() {
        BlockCache x = Check.with(2);
        for (int i = 1; i <= 32; i++) {
            Check.same("input " + i, x.input(i), i);
        }
        Check.state("a 33rd", () -> x.input(33));
        Check.argument("a 33rd that is no byte", () -> x.input(256));
        x.run(1);
        Check.same("the first one is read", x.get(0), 1);
        Check.same("there is a place again", x.input(99), 32);
        Check.state("full again", () -> x.input(33));
        allAreReadInOrder();
    }

    /** Full, refused, then read to the end: 32 bytes, and 0 behind them. */
    private static void allAreReadInOrder() {
        BlockCache x = Check.with(2, 1, 0xC0, 0);
        for (int i = 1; i <= 32; i++) {
            x.input(200 + i % 55);
        }
        Check.state("refused", () -> x.input(1));
        x.run(3 * 33);
        for (int i = 1; i <= 32; i++) {
            Check.same("byte " + i, x.output(i - 1), 200 + i % 55);
        }
        Check.same("behind them", x.output(32), 0);
        Check.same("empty", x.input(1), 1);
    }

    private static void goesRoundManyTimes() {
        BlockCache x = Check.with(2, 0xC0, 0);
        for (int i = 0; i < 5; i++) {
            x.input(i);
        }
        for (int i = 5; i < 120; i++) {
            x.input(i);
            x.run(2);
            Check.same("read in turn " + i, x.get(0), i - 5);
        }
    }
}
