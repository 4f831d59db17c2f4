/** Terms: "A BLOCK begins at a place": how long it is at its edges, and where it goes round. */
public final class Terms03BlockTest {
    private static final int MOV = 0x10;
    private static final int[][] LAST = {{0x00}, {0x03}, {0xC0, 200}, {0xC1, 200}, {0xC6, 200}, {0xD0, 200},
        {0xD1}, {0xF0, 200}};
    private static final int[][] NOT_LAST = {{0x01}, {0x02}, {0x04}, {0x11}, {0x21}, {0x31}, {0x41}, {0x51},
        {0x61}, {0x71}, {0x80}, {0x81}, {0x82}, {0x83}, {0x90, 1}, {0x91, 1}, {0x92, 1}, {0x93, 1}, {0xA0, 1},
        {0xB0, 150}, {0xE0}, {0xE1}};

    public static void main(String[] args) {
        upToAndWithTheFirstThatEndsIt();
        orTheEighth();
        othersDoNotEndIt();
        itEndsBeforeABadOne();
        ifThatIsTheFirstOneThereIsNoBlock();
        sixteenBytes();
        itGoesRound();
        memoryAsItIs();
        everyPlaceHasItsOwnBlock();
        Check.finish();
    }

    /** How many instructions the block has: the shortest run that takes it whole. */
    private static int length(int place, int... bytes) {
        for (int many = 1; many <= 9; many++) {
            BlockCache x = new BlockCache();
            Check.load(x, place, bytes);
            x.set(9, place);
            x.set(4, 180);
            x.run(many);
            if (x.count(6) == 1 && x.count(7) == 0) {
                return many;
            }
        }
        return 0;
    }

    /** So many MOVs, then these bytes, then MOVs. */
    private static int[] behindMovs(int movs, int... bytes) {
        int[] all = new int[movs + bytes.length + 9];
        java.util.Arrays.fill(all, MOV);
        System.arraycopy(bytes, 0, all, movs, bytes.length);
        return all;
    }

    private static void upToAndWithTheFirstThatEndsIt() {
        for (int[] last : LAST) {
            for (int movs = 0; movs <= 7; movs++) {
                Check.same("length with " + last[0] + " behind " + movs, length(64, behindMovs(movs, last)), movs + 1);
            }
        }
    }

    private static void orTheEighth() {
        Check.same("eight MOVs", length(64, behindMovs(8)), 8);
        for (int[] last : LAST) {
            Check.same("length with the ninth " + last[0], length(64, behindMovs(8, last)), 8);
        }
    }

    private static void othersDoNotEndIt() {
        for (int[] code : NOT_LAST) {
            Check.same("length with " + code[0] + " first", length(64, behindMovs(0, code)), 8);
            Check.same("length with " + code[0] + " seventh", length(64, behindMovs(6, code)), 8);
            Check.same("length with " + code[0] + " eighth", length(64, behindMovs(7, code)), 8);
        }
    }

    private static void itEndsBeforeABadOne() {
        for (int movs = 1; movs <= 7; movs++) {
            Check.same("length before BAD", length(64, behindMovs(movs, 0x05)), movs);
            Check.same("length before another BAD", length(64, behindMovs(movs, 0xFF)), movs);
        }
        Check.same("BAD as the ninth", length(64, behindMovs(8, 0x05)), 8);
        Check.same("BAD as an n is none", length(64, behindMovs(0, 0x90, 0x05, 0x00)), 2);
    }

    private static void ifThatIsTheFirstOneThereIsNoBlock() {
        BlockCache x = Check.with(0x05, MOV, 0x00);
        for (int i = 1; i <= 3; i++) {
            Check.same("run", x.run(50), 0);
            Check.counts("no block", x, 1, 0, 2, 0, 3, 0, 6, i, 7, 0, 11, 2);
        }
    }

    private static void sixteenBytes() {
        int[] bytes = new int[17];
        for (int i = 0; i < 16; i += 2) {
            bytes[i] = 0x90 | (i & 12);
            bytes[i + 1] = 100 + i;
        }
        Check.same("eight of two bytes", length(64, bytes), 8);
        BlockCache x = new BlockCache();
        Check.load(x, 64, bytes);
        x.set(9, 64);
        x.run(8);
        Check.same("PC is behind the sixteenth byte", x.get(9), 80);
        Check.same("A by the second", x.get(0), 102);
        Check.same("D by the eighth", x.get(3), 114);
    }

    private static void itGoesRound() {
        for (int place = 248; place <= 255; place++) {
            Check.same("eight from " + place, length(place, behindMovs(8)), 8);
            Check.same("six, with n, from " + place, length(place, 0x90, 1, 0x91, 2, 0x92, 3, MOV, 0x93, 4, 0x00), 6);
        }
        BlockCache x = new BlockCache();
        Check.load(x, 255, 0x90, 50, 0x01, 0x00);
        x.set(9, 255);
        x.run(3);
        Check.counts("n, OUT, STOP from 0 on", x, 1, 1, 6, 1, 7, 0);
        Check.same("n", x.output(0), 50);
    }

    /** Translated again, after the bytes were written over, it is another block. */
    private static void memoryAsItIs() {
        BlockCache x = Check.with(MOV, MOV, 0x00);
        x.run(3);
        Check.counts("three", x, 2, 3, 3, 1);
        Check.load(x, 1, 0x00);
        x.set(9, 0);
        Check.same("two", x.run(9), 2);
        Check.counts("two", x, 2, 2, 3, 2);
        Check.load(x, 1, 0x05);
        x.set(9, 0);
        Check.same("one", x.run(9), 1);
        Check.counts("one", x, 2, 2, 3, 3);
    }

    /** Blocks may lie over one another; each place begins its own. */
    private static void everyPlaceHasItsOwnBlock() {
        BlockCache x = Check.with(MOV, MOV, MOV, 0x00);
        for (int place = 3; place >= 0; place--) {
            x.set(9, place);
            Check.same("run from " + place, x.run(9), 4 - place);
            Check.counts("from " + place, x, 1, 4 - place, 3, 4 - place, 6, 4 - place);
        }
        Check.counts("sizes 1 + 2 + 3 + 4", x, 2, 10);
    }
}
