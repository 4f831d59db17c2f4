import java.util.Random;

/** Terms: "What throws changes nothing." Two objects do the same; one is also asked for what it refuses. */
public final class RefusedCallsTest {
    /** So many that no object is asked more than 512 times: beyond that its answers are free. */
    private static final int RUNS = 1000;
    private static final int STEPS = 14;

    private static int argumentRefused = 0;
    private static int stateRefused = 0;

    public static void main(String[] args) {
        for (int seed = 0; seed < RUNS; seed++) {
            Random random = new Random(seed);
            BlockCache plain = new BlockCache();
            BlockCache asked = new BlockCache();
            fill(random, plain, asked);
            for (int step = 0; step < STEPS; step++) {
                refused(random, asked);
                both(random, plain, asked);
            }
            Check.sameText("seed " + seed, Check.visible(asked), Check.visible(plain));
            sameMemoryAndOutput(random, plain, asked);
            untilFull(plain, asked);
        }
        Check.same("many were refused", argumentRefused > 10000 ? 1 : 0, 1);
        Check.same("some where it is full", stateRefused > 100 ? 1 : 0, 1);
        Check.finish();
    }

    /** Loops with every kind of instruction, and inputs and requests up to the brim in every third run. */
    private static void fill(Random random, BlockCache... all) {
        for (int place = 0; place < 256; place += 4) {
            int number = 0;
            for (int i = 0; i < 4; i++) {
                int code = random.nextInt(5) == 0 ? 0xC0 | random.nextInt(7) : random.nextInt(240);
                number = number << 8 | code;
            }
            for (BlockCache x : all) {
                x.poke(place, number, 4);
            }
        }
        boolean full = random.nextInt(3) == 0;
        for (BlockCache x : all) {
            for (int i = 0; i < (full ? 32 : 3); i++) {
                x.input(i);
            }
            for (int i = 0; i < (full ? 16 : 2); i++) {
                x.request(3 + 100 * i);
            }
        }
    }

    private static void both(Random random, BlockCache plain, BlockCache asked) {
        int kind = random.nextInt(10);
        int value = random.nextInt(256);
        if (kind < 7) {
            Check.same("run", asked.run(1 + value % 40), plain.run(1 + value % 40));
        } else if (kind == 7) {
            plain.set(9, value);
            asked.set(9, value);
        } else if (kind == 8) {
            plain.set(8, 1);
            asked.set(8, 1);
        } else {
            plain.room(1 + value);
            asked.room(1 + value);
        }
    }

    private static void refused(Random random, BlockCache x) {
        int far = random.nextBoolean() ? 256 + random.nextInt(1000) : -1 - random.nextInt(1000);
        argument("poke place", () -> x.poke(far, -1, 4));
        argument("poke many", () -> x.poke(random.nextInt(256), -1, far < 0 ? 0 : 5));
        argument("peek", () -> x.peek(far));
        argument("set what", () -> x.set(far, 1));
        argument("set value", () -> x.set(random.nextInt(10), far));
        argument("set one bit", () -> x.set(5 + random.nextInt(4), 2));
        argument("get", () -> x.get(far < 0 ? -1 : 10));
        argument("input", () -> x.input(far));
        argument("request below those run", () -> x.request(x.count(0) - 1));
        argument("request not above", () -> x.request(3));
        argument("room", () -> x.room(far < 0 ? 0 : 401));
        argument("run", () -> x.run(far < 0 ? 0 : 5001));
        argument("count", () -> x.count(far < 0 ? -1 : 12));
        Check.same("output", x.output(far), -1);
    }

    private static void argument(String what, Runnable call) {
        Check.argument(what, call);
        argumentRefused++;
    }

    private static void sameMemoryAndOutput(Random random, BlockCache plain, BlockCache asked) {
        for (int i = 0; i < 40; i++) {
            int place = random.nextInt(256);
            Check.same("peek(" + place + ")", asked.peek(place), plain.peek(place));
        }
        for (int k = 0; k < 10; k++) {
            Check.same("output(" + k + ")", asked.output(k), plain.output(k));
        }
    }

    /** Full ones are refused too, and what was refused is not there: the brim is as far for both. */
    private static void untilFull(BlockCache plain, BlockCache asked) {
        for (int i = 0; i < 17; i++) {
            int number = 100000 + i;
            Check.same("request", tried(() -> asked.request(number)), tried(() -> plain.request(number)));
        }
        for (int i = 0; i < 33; i++) {
            Check.same("input", tried(() -> asked.input(7)), tried(() -> plain.input(7)));
        }
        Check.same("run", asked.run(100), plain.run(100));
        Check.sameText("seen behind what is full", Check.visible(asked), Check.visible(plain));
    }

    private static int tried(java.util.function.IntSupplier call) {
        try {
            return call.getAsInt();
        } catch (IllegalStateException e) {
            stateRefused++;
            return -1;
        }
    }
}
