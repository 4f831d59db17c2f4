import java.util.Random;

/** Long runs of calls, made from fixed seeds, against the plain model. */
public final class ModelTest {
    private static final int OBJECTS = 3000;
    private static final int CALLS = 512;

    private static final long[] met = new long[13];

    public static void main(String[] args) {
        for (int seed = 0; seed < OBJECTS; seed++) {
            if (!sameAnswers(new Random(seed))) {
                Check.same("seed " + seed + " differs", 1, 0);
            }
        }
        // What the runs did not meet, they do not test.
        for (int i = 0; i < met.length; i++) {
            Check.same("met " + i + " often", met[i] > 1000 ? 1 : 0, 1);
        }
        Check.finish();
    }

    private static boolean sameAnswers(Random random) {
        BlockCache x = new BlockCache();
        Model m = new Model();
        int style = random.nextInt(RandomCode.STYLES);
        int calls = fill(random, style, x, m);
        for (; calls < CALLS; calls++) {
            String call = call(random, style, x, m);
            String difference = difference(x, m);
            if (!difference.isEmpty()) {
                System.out.println(call + ": " + difference);
                return false;
            }
        }
        for (int k = 0; k < 102; k++) {
            if (x.output(k) != m.output(k)) {
                System.out.println("output(" + k + ")");
                return false;
            }
        }
        for (int i = 0; i <= 10; i++) {
            met[i] += m.count(i);
        }
        met[11] += m.followed;
        met[12] += m.requests.size();
        return true;
    }

    private static int fill(Random random, int style, BlockCache x, Model m) {
        int calls = 0;
        for (int place = 0; place < 256; place += 4) {
            int number = RandomCode.four(random, style);
            x.poke(place, number, 4);
            m.poke(place, number, 4);
            calls++;
        }
        return calls;
    }

    private static String call(Random random, int style, BlockCache x, Model m) {
        int kind = random.nextInt(100);
        if (kind < 50) {
            int many = 1 + random.nextInt(random.nextInt(10) == 0 ? 400 : 20);
            return told("run " + many, x.run(many), m.run(many));
        }
        if (kind < 62) {
            int what = random.nextInt(4) == 0 ? 9 : random.nextInt(10);
            int value = random.nextInt(what >= 5 && what <= 8 ? 2 : 256);
            x.set(what, value);
            m.set(what, value);
            return "set " + what + " " + value;
        }
        if (kind < 74) {
            int number = random.nextInt(4) == 0 ? m.greatestRequest + random.nextInt(3) : m.ran + random.nextInt(30) - 1;
            return told("request " + number, request(x, number), m.request(number));
        }
        if (kind < 80) {
            int value = random.nextInt(256);
            return told("input " + value, input(x, value), m.input(value));
        }
        if (kind < 86) {
            int size = 1 + random.nextInt(random.nextBoolean() ? 400 : 30);
            x.room(size);
            m.room(size);
            return "room " + size;
        }
        int place = random.nextInt(256);
        int number = RandomCode.four(random, style);
        int many = 1 + random.nextInt(4);
        x.poke(place, number, many);
        m.poke(place, number, many);
        return "poke " + place + " " + number + " " + many;
    }

    private static String told(String call, int got, int want) {
        Check.same(call, got, want);
        return call;
    }

    private static int request(BlockCache x, int number) {
        try {
            return x.request(number);
        } catch (IllegalStateException e) {
            return -1;
        } catch (IllegalArgumentException e) {
            return -2;
        }
    }

    private static int input(BlockCache x, int value) {
        try {
            return x.input(value);
        } catch (IllegalStateException e) {
            return -1;
        }
    }

    private static String difference(BlockCache x, Model m) {
        for (int i = 0; i <= 9; i++) {
            if (x.get(i) != m.get(i)) {
                return "get(" + i + ") is " + x.get(i) + ", due is " + m.get(i);
            }
        }
        for (int i = 0; i <= 11; i++) {
            if (x.count(i) != m.count(i)) {
                return "count(" + i + ") is " + x.count(i) + ", due is " + m.count(i);
            }
        }
        for (int place = 0; place < 256; place++) {
            if (x.peek(place) != m.memory[place]) {
                return "peek(" + place + ") is " + x.peek(place) + ", due is " + m.memory[place];
            }
        }
        return "";
    }
}
