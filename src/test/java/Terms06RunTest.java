/** Terms: "A RUN is of so many INSTRUCTIONS, or ends with STOP (PC behind it) or before BAD." */
public final class Terms06RunTest {
    private static final int MOV = 0x10;

    public static void main(String[] args) {
        ofSoMany();
        withStop();
        beforeBad();
        asManyLeftAsItHas();
        asManyLeftInTheMiddle();
        aLookupEachTime();
        tooLargeIsInterpretedEachTime();
        translatedThoughNotRun();
        oneIsInterpreted();
        badIsNotInterpreted();
        Check.finish();
    }

    /** MOVs up to a place, and then these bytes. */
    private static BlockCache movs(int many, int... bytes) {
        BlockCache x = new BlockCache();
        for (int place = 0; place < many; place++) {
            x.poke(place, MOV << 24, 1);
        }
        Check.load(x, many, bytes);
        return x;
    }

    private static void ofSoMany() {
        for (int many = 1; many <= 40; many++) {
            BlockCache x = movs(64);
            Check.same("run(" + many + ")", x.run(many), many);
            Check.same("PC", x.get(9), many);
            Check.counts("all run", x, 0, many, 7, many % 8, 11, 0);
        }
    }

    /** STOP at each place of a block, with fewer, as many and more asked for. */
    private static void withStop() {
        for (int movs = 0; movs <= 17; movs++) {
            for (int many = 1; many <= movs + 3; many++) {
                BlockCache x = movs(movs, 0x00, MOV, MOV);
                int due = Math.min(many, movs + 1);
                Check.same("run(" + many + ") with STOP at " + movs, x.run(many), due);
                Check.same("PC", x.get(9), due);
                Check.counts("run(" + many + ") with STOP at " + movs, x, 0, due, 11, many > movs ? 1 : 0);
            }
        }
    }

    private static void beforeBad() {
        for (int movs = 0; movs <= 17; movs++) {
            for (int many = 1; many <= movs + 3; many++) {
                BlockCache x = movs(movs, 0x05, MOV, MOV);
                int due = Math.min(many, movs);
                Check.same("run(" + many + ") with BAD at " + movs, x.run(many), due);
                Check.same("PC", x.get(9), due);
                Check.counts("run(" + many + ") with BAD at " + movs, x, 0, due, 11, many > movs ? 2 : 0);
            }
        }
    }

    /** Blocks of 1 to 8 with one less left, as many, and one more. */
    private static void asManyLeftAsItHas() {
        for (int length = 1; length <= 8; length++) {
            for (int many = Math.max(1, length - 1); many <= length + 1; many++) {
                BlockCache x = movs(length - 1, 0xC0, 128);
                Check.same("run", x.run(many), many);
                boolean whole = many >= length;
                // With one more there is a STOP at 128 behind it.
                Check.counts("length " + length + " run(" + many + ")", x, 7, whole ? 0 : many,
                    6, whole ? many - length + 1 : many);
            }
        }
    }

    /** A loop of 5, with 0 to 4 left behind the second time. */
    private static void asManyLeftInTheMiddle() {
        for (int rest = 0; rest <= 5; rest++) {
            BlockCache x = movs(4, 0xC0, 0);
            Check.same("run", x.run(10 + rest), 10 + rest);
            Check.counts("rest " + rest, x, 0, 10 + rest, 7, rest % 5);
            Check.same("PC", x.get(9), rest % 5);
        }
    }

    /** RET has no exit: each time there is a lookup, and the block is there. */
    private static void aLookupEachTime() {
        BlockCache x = Check.with(0xD1);
        for (int i = 1; i <= 5; i++) {
            x.set(4, 200);
            x.set(9, 0);
            x.run(1);
            Check.counts("RET " + i, x, 3, 1, 6, i, 7, 0);
        }
        BlockCache y = Check.with(0xD1);
        y.set(4, 200);
        y.run(20);
        Check.counts("RET to itself", y, 3, 1, 6, 20, 7, 0);
    }

    private static void tooLargeIsInterpretedEachTime() {
        BlockCache x = Check.with(0xC1, 0, 0xC2, 0);
        x.room(2);
        x.run(20);
        Check.counts("3 in 2", x, 0, 20, 1, 0, 2, 0, 3, 0, 5, 0, 6, 20, 7, 20);
    }

    private static void translatedThoughNotRun() {
        BlockCache x = movs(8);
        x.run(7);
        Check.counts("seven blocks, none of them run", x, 1, 7, 3, 7, 6, 7, 7, 7);
    }

    /** One, not the whole block: then the rest is a block that may be run. */
    private static void oneIsInterpreted() {
        BlockCache x = movs(7, 0x00);
        x.request(1);
        Check.same("run", x.run(8), 8);
        Check.counts("one, then the seven", x, 3, 2, 6, 2, 7, 1, 11, 1);
    }

    private static void badIsNotInterpreted() {
        BlockCache x = movs(2, 0x05);
        x.room(1);
        Check.same("run", x.run(9), 2);
        Check.counts("two, and BAD is none", x, 0, 2, 6, 3, 7, 2, 11, 2);
    }
}
