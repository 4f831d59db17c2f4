/** Terms: from when a REQUEST is there, which blocks it keeps from being run, and what an INTERRUPT does. */
public final class Terms07RequestTest {
    private static final int MOV = 0x10;

    public static void main(String[] args) {
        thereFromSoManyOn();
        beforeTheLast();
        anyOfThem();
        aBlockOfOneIsNeverKeptOff();
        onOrNot();
        notOnAnyMore();
        oneEachTime();
        firstTheInterruptThenTheBlock();
        theEndOfARunComesFirst();
        sixteenInTurn();
        interruptAtBad();
        interruptIntoItsOwnCode();
        Check.finish();
    }

    /** MOVs from 0 to 127, STOP at 240, SP in page 5. */
    private static BlockCache movs() {
        BlockCache x = new BlockCache();
        for (int place = 0; place < 128; place += 4) {
            x.poke(place, 0x10101010, 4);
        }
        x.set(4, 176);
        return x;
    }

    /** Some were run before; then a request at so many more. */
    private static void thereFromSoManyOn() {
        for (int before = 0; before <= 9; before += 3) {
            for (int more = 0; more <= 18; more++) {
                BlockCache x = movs();
                if (before > 0) {
                    x.run(before);
                }
                x.set(8, 1);
                x.request(before + more);
                Check.same("run", x.run(30), more + 1);
                Check.same("it came at", x.peek(175), before + more);
                Check.counts("request at " + before + " and " + more, x, 8, 1, 11, 1);
            }
        }
    }

    /** Blocks of each length, begun when 0 or 5 were run, with a request from none to two behind. */
    private static void beforeTheLast() {
        for (int length = 1; length <= 8; length++) {
            for (int base = 0; base <= 5; base += 5) {
                for (int more = 0; more <= length + 2; more++) {
                    BlockCache x = movs();
                    Check.load(x, 63 + length, 0x00);
                    if (base > 0) {
                        x.run(base);
                    }
                    int interpreted = x.count(7);
                    x.request(base + more);
                    x.set(9, 64);
                    Check.same("run", x.run(20), length);
                    // Above those run so far, and at most those with all but the last one.
                    boolean comes = more > 0 && more <= length - 1;
                    Check.counts("length " + length + " request " + more, x, 7, interpreted + (comes ? more : 0));
                }
            }
        }
    }

    /** Not only the first one that is not gone. */
    private static void anyOfThem() {
        for (int second = 1; second <= 9; second++) {
            BlockCache x = movs();
            Check.load(x, 71, 0x00);
            x.request(0);
            x.request(second);
            x.set(9, 64);
            Check.same("run", x.run(20), 8);
            Check.counts("0 is there, not ON; then " + second, x, 7, second <= 7 ? second : 0);
        }
        BlockCache y = movs();
        Check.load(y, 71, 0x00);
        y.request(2);
        y.request(4);
        y.request(100);
        y.set(9, 64);
        y.run(20);
        Check.counts("2 and 4", y, 7, 4);
    }

    private static void aBlockOfOneIsNeverKeptOff() {
        BlockCache x = Check.with(0xC0, 0);
        x.request(1);
        x.request(2);
        x.request(3);
        x.run(5);
        Check.counts("JMP to itself", x, 7, 0, 0, 5);
    }

    private static void onOrNot() {
        BlockCache x = movs();
        x.request(0);
        x.run(16);
        Check.counts("not ON: it waits, and blocks are run", x, 8, 0, 7, 0);
        x.set(8, 1);
        x.run(1);
        Check.counts("ON", x, 8, 1);
        // DI stands before the request: no interrupt.
        BlockCache y = movs();
        Check.load(y, 2, 0x04);
        y.set(8, 1);
        y.request(3);
        y.run(20);
        Check.counts("DI as the last before it", y, 8, 0, 0, 20);
        BlockCache z = movs();
        Check.load(z, 3, 0x04);
        z.set(8, 1);
        z.request(3);
        z.run(20);
        Check.counts("DI behind it", z, 8, 1);
        Check.same("it came at", z.peek(175), 3);
    }

    private static void notOnAnyMore() {
        BlockCache x = movs();
        Check.load(x, 240, MOV, MOV, MOV, 0x00);
        x.set(8, 1);
        x.request(1);
        x.request(2);
        Check.same("run", x.run(30), 5);
        Check.counts("the second waits", x, 8, 1);
        Check.same("not ON", x.get(8), 0);
        Check.same("one is not gone", x.request(100), 2);
    }

    private static void oneEachTime() {
        BlockCache x = movs();
        x.request(0);
        x.request(1);
        x.run(8);
        x.set(8, 1);
        x.run(1);
        Check.counts("two are there, one comes", x, 8, 1);
        Check.same("SP", x.get(4), 175);
        x.set(8, 1);
        x.run(1);
        Check.counts("then the other", x, 8, 2);
        x.set(8, 1);
        x.run(1);
        Check.counts("no more", x, 8, 2);
    }

    /** The block at 240 is looked up, not that where PC was. */
    private static void firstTheInterruptThenTheBlock() {
        BlockCache x = movs();
        x.set(8, 1);
        x.set(9, 5);
        x.request(0);
        x.run(1);
        Check.same("PC is behind 240", x.get(9), 241);
        Check.same("pushed", x.peek(175), 5);
        Check.counts("one block, that at 240", x, 1, 1, 2, 1, 3, 1, 6, 1, 7, 0);
    }

    private static void theEndOfARunComesFirst() {
        BlockCache x = movs();
        x.set(8, 1);
        x.request(8);
        Check.same("run", x.run(8), 8);
        Check.counts("all run", x, 8, 0, 7, 0);
        Check.same("PC", x.get(9), 8);
        x.run(1);
        Check.counts("the next run begins with it", x, 8, 1);
        BlockCache y = movs();
        Check.load(y, 3, 0x00);
        y.set(8, 1);
        y.request(4);
        Check.same("STOP", y.run(30), 4);
        Check.counts("STOP comes first", y, 8, 0, 11, 1);
        BlockCache z = movs();
        Check.load(z, 3, 0x05);
        z.set(8, 1);
        z.request(3);
        Check.same("BAD does not", z.run(30), 4);
        Check.counts("it comes before BAD is met", z, 8, 1, 11, 1);
        Check.same("BAD's place is pushed", z.peek(175), 3);
    }

    private static void sixteenInTurn() {
        // At 240: EI; RET
        BlockCache x = movs();
        Check.load(x, 240, 0x03, 0xD1);
        x.set(8, 1);
        for (int i = 0; i < 16; i++) {
            x.request(4 * i + 1);
        }
        Check.same("run", x.run(100), 100);
        Check.counts("all came", x, 8, 16);
        Check.same("none is left", x.request(100), 1);
        Check.same("100 less two each", x.get(9), 100 - 32);
        Check.same("the stack is as before", x.get(4), 176);
    }

    private static void interruptAtBad() {
        BlockCache x = movs();
        Check.load(x, 240, 0x05);
        x.set(8, 1);
        x.request(2);
        Check.same("run", x.run(30), 2);
        Check.counts("BAD at 240", x, 0, 2, 8, 1, 11, 2);
        Check.same("PC", x.get(9), 240);
        Check.same("SP", x.get(4), 175);
    }

    /** SP 241: PC is pushed to 240, where the interrupt's code begins. */
    private static void interruptIntoItsOwnCode() {
        BlockCache x = movs();
        x.set(9, 240);
        x.run(1);
        Check.counts("STOP at 240", x, 1, 1, 2, 1);
        x.set(4, 241);
        x.set(9, 0x10);
        x.set(8, 1);
        x.request(1);
        x.run(2);
        Check.counts("its block is gone first", x, 4, 1, 3, 2, 8, 1);
        Check.same("MOV stands there, then STOP", x.get(9), 242);
    }
}
