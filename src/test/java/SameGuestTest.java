import java.util.Random;

/**
 * What the guest does is the same whatever blocks are kept: for any room, for a run in one call or in
 * many, and with the cache emptied between them. This needs no model.
 */
public final class SameGuestTest {
    private static final int SEEDS = 400;
    private static final int LEGS = 12;
    private static final int[] ROOMS = {100, 400, 1, 12, 100, 100};
    private static final int ONE_AT_A_TIME = 4;
    private static final int EMPTIED_BETWEEN = 5;

    private static long inBlocks;
    private static long interrupts;
    private static long invalidated;

    public static void main(String[] args) {
        for (int seed = 0; seed < SEEDS; seed++) {
            sameGuest(seed);
        }
        // What the runs did not meet, they do not test.
        Check.same("ran many in blocks", inBlocks > 10000 ? 1 : 0, 1);
        Check.same("met many interrupts", interrupts > 1000 ? 1 : 0, 1);
        Check.same("wrote over many blocks", invalidated > 1000 ? 1 : 0, 1);
        Check.finish();
    }

    private static void sameGuest(int seed) {
        BlockCache[] all = new BlockCache[ROOMS.length];
        for (int i = 0; i < all.length; i++) {
            all[i] = made(seed, ROOMS[i]);
        }
        Random random = new Random(-1 - seed);
        for (int leg = 0; leg < LEGS; leg++) {
            int many = 1 + random.nextInt(120);
            int place = random.nextInt(256);
            int number = all[0].count(0) + random.nextInt(many);
            int[] ran = new int[all.length];
            for (int i = 0; i < all.length; i++) {
                all[i].set(9, place);
                ask(all[i], number);
                ran[i] = runLeg(i, all[i], many);
                String told = "seed " + seed + ", leg " + leg + ", object " + i;
                Check.same(told + ": run", ran[i], ran[0]);
                Check.sameText(told, guest(all[i]), guest(all[0]));
            }
        }
        inBlocks += all[0].count(0) - all[0].count(7);
        interrupts += all[0].count(8);
        invalidated += all[0].count(4);
    }

    private static int runLeg(int i, BlockCache x, int many) {
        switch (i) {
            case ONE_AT_A_TIME: return inParts(x, many, 1, false);
            case EMPTIED_BETWEEN: return inParts(x, many, 9, true);
            default: return x.run(many);
        }
    }

    private static BlockCache made(int seed, int room) {
        Random random = new Random(seed);
        int style = random.nextInt(RandomCode.STYLES);
        BlockCache x = new BlockCache();
        x.room(room);
        for (int place = 0; place < 256; place += 4) {
            x.poke(place, RandomCode.four(random, style), 4);
        }
        for (int what = 0; what <= 8; what++) {
            x.set(what, random.nextInt(what >= 5 ? 2 : 256));
        }
        for (int i = 0; i < 20; i++) {
            x.input(random.nextInt(256));
        }
        return x;
    }

    /** One request more, if there may be one. */
    private static void ask(BlockCache x, int number) {
        try {
            x.request(number);
        } catch (IllegalArgumentException e) {
            return;
        } catch (IllegalStateException e) {
            return;
        }
    }

    /** A run in parts: how many were run. It ends as a whole one does. */
    private static int inParts(BlockCache x, int many, int part, boolean emptied) {
        int ran = 0;
        do {
            ran += x.run(Math.min(part, many - ran));
            if (emptied) {
                x.room(100);
            }
        } while (ran < many && x.count(11) == 0);
        return ran;
    }

    /** All that is the guest's, and none of the cache's counts. */
    private static String guest(BlockCache x) {
        StringBuilder text = new StringBuilder();
        for (int what = 0; what <= 9; what++) {
            text.append(x.get(what)).append(' ');
        }
        for (int what : new int[] {0, 8, 10, 11}) {
            text.append(x.count(what)).append(' ');
        }
        for (int place = 0; place < 256; place++) {
            text.append(x.peek(place)).append(' ');
        }
        for (int k = 0; k < 100; k++) {
            text.append(x.output(k)).append(' ');
        }
        return text.toString();
    }
}
