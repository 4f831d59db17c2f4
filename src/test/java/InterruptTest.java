/** Requests and interrupts: at which instruction they come. */
public final class InterruptTest {
    public static void main(String[] args) {
        comesAtItsInstruction();
        whatAnInterruptDoes();
        onlyWhenOn();
        blocksThatMayNotBeRun();
        breaksLinks();
        oneAtATime();
        pushInvalidates();
        Check.finish();
    }

    private static BlockCache movs() {
        BlockCache x = new BlockCache();
        for (int i = 0; i < 64; i += 4) {
            x.poke(i, 0x10101010, 4);
        }
        x.set(4, 128);
        return x;
    }

    private static void comesAtItsInstruction() {
        for (int number = 0; number <= 20; number++) {
            BlockCache x = movs();
            x.set(8, 1);
            x.request(number);
            Check.same("run", x.run(100), number + 1);
            Check.same("the place it came at", x.peek(127), number);
            Check.same("PC behind STOP at 240", x.get(9), 241);
            Check.counts("request at " + number, x, 8, 1, 11, 1);
        }
    }

    private static void whatAnInterruptDoes() {
        BlockCache x = movs();
        Check.load(x, 240, 0x05);
        x.set(8, 1);
        x.set(9, 200);
        x.request(0);
        Check.same("BAD at 240", x.run(100), 0);
        Check.same("not ON", x.get(8), 0);
        Check.same("SP", x.get(4), 127);
        Check.same("pushed", x.peek(127), 200);
        Check.same("PC", x.get(9), 240);
        Check.counts("BAD", x, 8, 1, 11, 2, 0, 0);
        Check.same("that request is gone", x.request(1), 1);
    }

    private static void onlyWhenOn() {
        BlockCache x = movs();
        x.request(3);
        x.run(10);
        Check.counts("not ON", x, 8, 0, 0, 10);
        Check.load(x, 10, 0x03);
        x.run(1);
        Check.counts("EI is the last", x, 8, 0);
        x.run(1);
        Check.counts("there since long", x, 8, 1);
        Check.same("behind EI", x.peek(127), 11);
        BlockCache y = movs();
        Check.load(y, 2, 0x03);
        y.request(0);
        y.run(9);
        Check.same("at once behind EI", y.peek(127), 3);
    }

    /** Of a block of 8 begun at 0, a request at 1 .. 7 comes before its last one, ON or not. */
    private static void blocksThatMayNotBeRun() {
        for (int on = 0; on <= 1; on++) {
            for (int number = 0; number <= 9; number++) {
                BlockCache x = movs();
                Check.load(x, 240, 0x10, 0x10, 0x10, 0x10, 0x10, 0x10, 0x10, 0x10);
                x.set(8, on);
                x.request(number);
                x.run(8);
                boolean before = number >= 1 && number <= 7;
                Check.same("request at " + number + " on " + on, x.count(7) > 0 ? 1 : 0, before ? 1 : 0);
            }
        }
        BlockCache y = movs();
        y.request(9);
        y.request(20);
        y.run(8);
        Check.counts("none before the last", y, 7, 0);
        y.run(8);
        // At 8: interpreted once, then 9 is there (not ON) and 20 is behind the last of 9 .. 16.
        Check.counts("one before the last", y, 7, 8, 0, 16);
        BlockCache z = movs();
        z.request(0);
        z.request(1);
        z.run(8);
        Check.same("the second one comes before the last", z.count(7) > 0 ? 1 : 0, 1);
    }

    /** A loop of one JMP at 240, where the exit's place is also the interrupt's. */
    private static void breaksLinks() {
        BlockCache x = new BlockCache();
        Check.load(x, 240, 0xC0, 240);
        x.set(9, 240);
        x.set(4, 128);
        x.run(5);
        Check.counts("linked to itself", x, 6, 2);
        x.set(8, 1);
        x.request(7);
        x.run(4);
        Check.counts("a lookup at the start and behind the interrupt", x, 6, 4, 8, 1);
        BlockCache y = new BlockCache();
        Check.load(y, 240, 0xC0, 240);
        y.set(9, 240);
        y.set(4, 128);
        y.set(8, 1);
        y.request(1);
        y.run(2);
        Check.counts("two lookups", y, 6, 2, 8, 1);
        y.run(2);
        Check.counts("no link was made over the interrupt", y, 6, 4);
        y.run(2);
        Check.counts("but by the next run", y, 6, 5);
    }

    private static void oneAtATime() {
        // At 240: EI; RET
        BlockCache x = movs();
        Check.load(x, 240, 0x03, 0xD1);
        x.set(8, 1);
        x.request(0);
        x.request(1);
        x.request(2);
        x.run(3);
        // EI, EI, EI: behind each the next one is there.
        Check.counts("three", x, 8, 3, 0, 3);
        Check.same("SP", x.get(4), 125);
        Check.same("first", x.peek(127), 0);
        Check.same("second", x.peek(126), 241);
        Check.same("third", x.peek(125), 241);
        x.run(3);
        Check.same("back to the first place", x.get(9), 0);
    }

    private static void pushInvalidates() {
        BlockCache x = movs();
        x.run(8);
        Check.counts("a block in page 0", x, 1, 1);
        x.set(8, 1);
        x.set(4, 32);
        x.request(8);
        x.run(1);
        Check.counts("pushed into page 0", x, 4, 1, 8, 1, 1, 1, 3, 2);
        Check.same("pushed", x.peek(31), 8);
    }
}
