/** What the tests share: comparing, telling what is wrong, and loading guest code. */
final class Check {
    private static int wrong = 0;
    private static int done = 0;

    private Check() {
    }

    static void same(String what, long got, long want) {
        done++;
        if (got != want) {
            wrong++;
            System.out.println(what + ": answered " + got + ", due is " + want);
        }
    }

    static void argument(String what, Runnable call) {
        same(what + " throws (1 IllegalArgument, 2 IllegalState)", thrown(call), 1);
    }

    static void state(String what, Runnable call) {
        same(what + " throws (1 IllegalArgument, 2 IllegalState)", thrown(call), 2);
    }

    private static int thrown(Runnable call) {
        try {
            call.run();
            return 0;
        } catch (IllegalArgumentException e) {
            return 1;
        } catch (IllegalStateException e) {
            return 2;
        }
    }

    /** An object with these bytes from place 0 on. */
    static BlockCache with(int... bytes) {
        BlockCache x = new BlockCache();
        load(x, 0, bytes);
        return x;
    }

    static void load(BlockCache x, int place, int... bytes) {
        for (int i = 0; i < bytes.length; i += 4) {
            int many = Math.min(4, bytes.length - i);
            int number = 0;
            for (int k = 0; k < many; k++) {
                number |= bytes[i + k] << (24 - 8 * k);
            }
            x.poke((place + i) & 255, number, many);
        }
    }

    /** Compares counts, told as pairs: what, due, what, due. */
    static void counts(String when, BlockCache x, int... pairs) {
        for (int i = 0; i < pairs.length; i += 2) {
            same(when + ": count(" + pairs[i] + ")", x.count(pairs[i]), pairs[i + 1]);
        }
    }

    /** All that can be read but memory and output: a text to compare before and after. */
    static String visible(BlockCache x) {
        StringBuilder text = new StringBuilder();
        for (int i = 0; i <= 9; i++) {
            text.append(x.get(i)).append(' ');
        }
        for (int i = 0; i <= 11; i++) {
            text.append(x.count(i)).append(' ');
        }
        return text.toString();
    }

    static void sameText(String what, String got, String want) {
        done++;
        if (!got.equals(want)) {
            wrong++;
            System.out.println(what + ": answered " + got + ", due is " + want);
        }
    }

    static void finish() {
        System.out.println(done + " checks, " + wrong + " wrong");
        if (wrong != 0 || done == 0) {
            System.exit(1);
        }
    }
}
