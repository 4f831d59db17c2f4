/** Terms: "FLAGS of one in it are DEAD if ...", and what is seen of them in SIZES and by the guest. */
public final class Terms04DeadTest {
    private static final int[][] MAKERS = {{0x21}, {0x31}, {0x41}, {0x51}, {0x61}, {0x71}, {0x80}, {0x81}, {0x82},
        {0x83}, {0x91, 1}, {0x92, 1}, {0x93, 1}};
    /** SIZES of the makers when their flags are made, and when they are dead. */
    private static final int[] MADE = {5, 6, 5, 5, 4, 4, 5, 4, 6, 7, 6, 6, 5};
    private static final int[] DEAD = {2, 3, 2, 0, 1, 1, 2, 1, 3, 3, 3, 0, 2};
    private static final boolean[] READS = {false, true, false, false, false, false, false, false, true, true,
        false, false, false};

    public static void main(String[] args) {
        aLaterOneMakes();
        thatOneTooMustNotRead();
        noneBetweenReadsOrWrites();
        theLastOneIsNeverDead();
        aLaterOneOutsideTheBlockDoesNotCount();
        onlyUpToThatOne();
        whoMakesNoneIsNeverDead();
        manyInOneBlock();
        flagsAreRightAtEveryEnd();
        flagsAreRightWhereABlockEndsEarly();
        Check.finish();
    }

    /** Translates the block of these bytes and runs none of its whole: its size and its dead ones. */
    private static void block(String what, int size, int dead, int... bytes) {
        BlockCache x = new BlockCache();
        Check.load(x, 64, bytes);
        x.set(9, 64);
        x.set(4, 200);
        x.set(0, 100);
        x.run(1);
        Check.counts(what, x, 2, size, 3, 1, 9, dead);
    }

    private static int[] joined(int[]... parts) {
        int many = 0;
        for (int[] part : parts) {
            many += part.length;
        }
        int[] all = new int[many];
        int at = 0;
        for (int[] part : parts) {
            System.arraycopy(part, 0, all, at, part.length);
            at += part.length;
        }
        return all;
    }

    private static void aLaterOneMakes() {
        for (int i = 0; i < MAKERS.length; i++) {
            block("alone " + i, MADE[i] + 1, 0, joined(MAKERS[i], new int[] {0}));
            block("AND behind " + i, DEAD[i] + 4 + 1, 1, joined(MAKERS[i], new int[] {0x61, 0}));
        }
    }

    /** "(that one, too)": one that makes flags and reads them does not free those before it. */
    private static void thatOneTooMustNotRead() {
        for (int i = 0; i < MAKERS.length; i++) {
            int first = READS[i] ? 4 : 1;
            block("AND before " + i, first + MADE[i] + 1, READS[i] ? 0 : 1,
                joined(new int[] {0x61}, MAKERS[i], new int[] {0}));
        }
    }

    private static void noneBetweenReadsOrWrites() {
        int[][] kept = {{0xB0, 100}, {0xE0}};
        int[] keptSize = {4, 1};
        for (int i = 0; i < kept.length; i++) {
            block("kept by " + kept[i][0], 4 + keptSize[i] + 4 + 1, 0,
                joined(new int[] {0x61}, kept[i], new int[] {0x61, 0}));
            block("kept by " + kept[i][0] + ", not next to either", 4 + 1 + keptSize[i] + 1 + 4 + 1, 0,
                joined(new int[] {0x61, 0x10}, kept[i], new int[] {0x10, 0x61, 0}));
        }
        int[][] free = {{0x01}, {0x02}, {0x04}, {0x11}, {0x90, 1}, {0xA0, 1}, {0xE1}};
        int[] freeSize = {1, 1, 1, 1, 1, 4, 1};
        for (int i = 0; i < free.length; i++) {
            block("not kept by " + free[i][0], 1 + freeSize[i] + 4 + 1, 1,
                joined(new int[] {0x61}, free[i], new int[] {0x61, 0}));
        }
        for (int reader : new int[] {0x31, 0x82, 0x83}) {
            block("kept by " + reader + ", which is dead itself", 4 + 3 + 4 + 1, 1, 0x61, reader, 0x61, 0);
        }
    }

    /** Whatever ends the block: nobody in it makes flags behind the last maker. */
    private static void theLastOneIsNeverDead() {
        int[][] ends = {{0x00}, {0x03}, {0xC0, 9}, {0xC1, 9}, {0xC6, 9}, {0xD0, 9}, {0xD1}, {0xF0, 9}, {0x05}};
        int[] sizes = {1, 2, 1, 3, 3, 3, 2, 4, 1};
        for (int i = 0; i < ends.length; i++) {
            block("one, then " + ends[i][0], 4 + sizes[i], 0, joined(new int[] {0x61}, ends[i]));
            block("two, then " + ends[i][0], 1 + 4 + sizes[i], 1, joined(new int[] {0x61, 0x61}, ends[i]));
        }
    }

    private static void aLaterOneOutsideTheBlockDoesNotCount() {
        block("the ninth", 4 + 7 + 1, 0, 0x61, 0x10, 0x10, 0x10, 0x10, 0x10, 0x10, 0x10, 0x61);
        block("the eighth", 1 + 6 + 4 + 1, 1, 0x61, 0x10, 0x10, 0x10, 0x10, 0x10, 0x10, 0x61);
        block("behind STOP", 4 + 1, 0, 0x61, 0x00, 0x61);
        block("behind EI", 4 + 1 + 1, 0, 0x61, 0x03, 0x61);
        block("behind JMP", 4 + 1, 0, 0x61, 0xC0, 66, 0x61);
        block("behind BAD", 4 + 1, 0, 0x61, 0x05, 0x61);
    }

    /** What reads or writes behind the later maker does not matter. */
    private static void onlyUpToThatOne() {
        block("ADC behind it", 1 + 4 + 6 + 1, 1, 0x61, 0x61, 0x31, 0);
        block("ST behind it", 1 + 4 + 4 + 1, 1, 0x61, 0x61, 0xB0, 100, 0);
        block("PUSH behind it", 1 + 4 + 1 + 1, 1, 0x61, 0x61, 0xE0, 0);
        block("CALL behind it", 1 + 4 + 3, 1, 0x61, 0x61, 0xD0, 9);
        block("JMP if Z behind it", 1 + 4 + 3, 1, 0x61, 0x61, 0xC1, 9);
        block("ST before both", 4 + 1 + 4 + 1, 1, 0xB0, 100, 0x61, 0x61, 0);
    }

    private static void whoMakesNoneIsNeverDead() {
        int[][] none = {{0x01}, {0x02}, {0x04}, {0x11}, {0x90, 1}, {0xA0, 1}, {0xB0, 100}, {0xE0}, {0xE1}};
        int[] sizes = {1, 1, 1, 1, 1, 4, 4, 1, 1};
        for (int i = 0; i < none.length; i++) {
            block("AND behind " + none[i][0], sizes[i] + 4 + 1, 0, joined(none[i], new int[] {0x61, 0}));
        }
    }

    private static void manyInOneBlock() {
        block("seven dead", 0 + 0 + 1 + 1 + 2 + 2 + 2 + 4 + 1, 7, 0x51, 0x51, 0x61, 0x71, 0x21, 0x41, 0x80, 0x61);
        block("eight that read", 6 * 8 + 1, 0, 0x31, 0x31, 0x31, 0x31, 0x31, 0x31, 0x31, 0x31);
        block("eight ROR: the greatest", 7 * 8 + 1, 0, 0x83, 0x83, 0x83, 0x83, 0x83, 0x83, 0x83, 0x83);
    }

    /** Blocks give the same flags as one instruction after the other. */
    private static void flagsAreRightAtEveryEnd() {
        for (int i = 0; i < MAKERS.length; i++) {
            for (int k = 0; k < MAKERS.length; k++) {
                int[] code = joined(MAKERS[i], MAKERS[k], new int[] {0xC3, 80});
                int whole = flagsAfter(400, code);
                int alone = flagsAfter(1, code);
                Check.same("flags of " + i + " then " + k, whole, alone);
            }
        }
    }

    private static int flagsAfter(int room, int... bytes) {
        BlockCache x = Check.with(bytes);
        x.room(room);
        x.set(0, 0x81);
        x.set(1, 0x7F);
        x.set(6, 1);
        x.run(3);
        Check.counts("how it was run", x, 0, 3, 7, room == 1 ? 3 : 0);
        return x.get(5) + 2 * x.get(6) + 4 * x.get(7) + 8 * x.get(0) + 2048 * x.get(9);
    }

    /** A block that writes over itself ends behind the writer, with the flags of those before it made. */
    private static void flagsAreRightWhereABlockEndsEarly() {
        // SUB A, A (Z); ST B at A + 4: where AND C, C was, JMP if Z to 50 stands then.
        BlockCache store = Check.with(0x40, 0xB4, 4, 0x10, 0x6A, 50, 0x00);
        store.set(1, 0xC1);
        store.set(2, 9);
        Check.same("SUB, ST, MOV, JMP, STOP", store.run(20), 5);
        Check.same("Z was made before ST", store.get(9), 51);
        Check.counts("the block ended behind ST", store, 4, 1, 7, 0);
        // SUB A, A; PUSH B over the AND C, C at 3.
        BlockCache push = Check.with(0x40, 0xE4, 0x10, 0x6A, 50, 0x00);
        push.set(1, 0xC1);
        push.set(2, 9);
        push.set(4, 4);
        Check.same("SUB, PUSH, MOV, JMP, STOP", push.run(20), 5);
        Check.same("Z was made before PUSH", push.get(9), 51);
        Check.counts("the block ended behind PUSH", push, 4, 1, 7, 0);
    }
}
