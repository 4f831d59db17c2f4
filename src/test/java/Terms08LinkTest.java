/** Terms: "LINKS": each end that is an EXIT or is none, at its edges. Seen by the lookups. */
public final class Terms08LinkTest {
    private static final int MOV = 0x10;

    public static void main(String[] args) {
        theseEndsAreExits();
        theseEndsAreNone();
        nAndThePlaceBehindAreTwoExits();
        exitsGoRound();
        nextInThisRunOnly();
        noLinkBeforeItIsTaken();
        noInterruptBetween();
        aBlockIsRunThere();
        fromThenOn();
        asLongAsBothAreInTheCache();
        aFlushBetween();
        toItself();
        withALinkThereIsNoLookup();
        Check.finish();
    }

    /** Lookups of a run from a place on. */
    private static int lookups(BlockCache x, int place, int many) {
        int before = x.count(6);
        x.set(9, place);
        x.set(4, 128);
        Check.same("run", x.run(many), many);
        return x.count(6) - before;
    }

    /** The first run looks up both blocks, the next one the first block alone. */
    private static void linked(String what, BlockCache x, int place, int many) {
        Check.same(what + ": first", lookups(x, place, many), 2);
        Check.same(what + ": second", lookups(x, place, many), 1);
        Check.same(what + ": third", lookups(x, place, many), 1);
        Check.counts(what, x, 7, 0);
    }

    private static void notLinked(String what, BlockCache x, int place, int many) {
        for (int i = 0; i < 3; i++) {
            Check.same(what + ": run " + i, lookups(x, place, many), 2);
        }
        Check.counts(what, x, 7, 0);
    }

    private static void theseEndsAreExits() {
        linked("JMP always", Check.with(0xC0, 64), 0, 2);
        linked("JMP taken", Check.with(0xC4, 64), 0, 2);
        linked("JMP not taken", Check.with(0xC3, 64, 0), 0, 2);
        linked("CALL", Check.with(0xD0, 64), 0, 2);
        linked("DJNZ taken", Check.with(0xF4, 64), 0, 2);
        linked("EI", Check.with(0x03, 0), 0, 2);
        linked("the eighth", Check.with(MOV, MOV, MOV, MOV, MOV, MOV, MOV, MOV, 0), 0, 9);
        BlockCache down = Check.with(0xF4, 64, 0);
        for (int i = 0; i < 3; i++) {
            down.set(1, 1);
            Check.same("DJNZ not taken", lookups(down, 0, 2), i == 0 ? 2 : 1);
        }
        // Kept from before there was more behind it than BAD.
        BlockCache bad = new BlockCache();
        Check.load(bad, 31, MOV, 0x05);
        bad.set(9, 31);
        bad.run(2);
        Check.load(bad, 32, 0x00);
        Check.same("before what was BAD", lookups(bad, 31, 2), 2);
        Check.same("before what was BAD, again", lookups(bad, 31, 2), 1);
        Check.counts("two blocks", bad, 1, 2, 3, 2);
    }

    private static void theseEndsAreNone() {
        BlockCache ret = Check.with(0xD1);
        ret.poke(128, 64 << 24, 1);
        notLinked("RET", ret, 0, 2);
        // Its eighth is ST into its own page: INVALIDATED, it ended since.
        BlockCache gone = Check.with(MOV, MOV, MOV, MOV, MOV, MOV, MOV, 0xB0, 31);
        Check.load(gone, 9, 0);
        notLinked("INVALIDATED by its last one", gone, 0, 9);
        // Its first is ST into its own page: it ends at 2, where the eighth is not.
        BlockCache early = Check.with(0xB0, 31, MOV, 0);
        notLinked("INVALIDATED by its first one", early, 0, 3);
        BlockCache stop = Check.with(0x00, 0x00);
        stop.run(1);
        stop.run(1);
        stop.set(9, 0);
        stop.run(1);
        stop.run(1);
        Check.counts("STOP ends the run", stop, 6, 4);
    }

    private static void nAndThePlaceBehindAreTwoExits() {
        BlockCache x = Check.with(0xC1, 64, 0);
        int[] due = {2, 2, 1, 1, 1, 1};
        for (int i = 0; i < due.length; i++) {
            x.set(5, i % 2);
            Check.same("taken or not, run " + i, lookups(x, 0, 2), due[i]);
        }
        BlockCache y = Check.with(0xF4, 64, 0);
        for (int i = 0; i < due.length; i++) {
            y.set(1, 1 + i % 2);
            Check.same("DJNZ taken or not, run " + i, lookups(y, 0, 2), due[i]);
        }
        // One of both is gone with its target, the other one stays.
        x.poke(64, 0, 1);
        x.set(5, 0);
        Check.same("behind stays", lookups(x, 0, 2), 1);
        x.set(5, 1);
        Check.same("n is gone", lookups(x, 0, 2), 2);
        Check.same("n is linked again", lookups(x, 0, 2), 1);
    }

    private static void exitsGoRound() {
        for (int place = 254; place <= 255; place++) {
            BlockCache x = new BlockCache();
            Check.load(x, place, 0xC1, 64);
            linked("not taken at " + place, x, place, 2);
        }
        BlockCache ei = new BlockCache();
        Check.load(ei, 255, 0x03);
        linked("EI at 255", ei, 255, 2);
        BlockCache eight = new BlockCache();
        for (int place = 248; place < 256; place++) {
            eight.poke(place, MOV << 24, 1);
        }
        linked("the eighth at 255", eight, 248, 9);
        BlockCache first = Check.with(0xC0, 255);
        linked("n is 255", first, 0, 2);
        BlockCache last = new BlockCache();
        Check.load(last, 100, 0xC0, 0);
        linked("n is 0", last, 100, 2);
    }

    /** A run that ends with the block makes no link, and the next one begins with a lookup. */
    private static void nextInThisRunOnly() {
        BlockCache x = Check.with(0xC0, 64);
        for (int i = 0; i < 3; i++) {
            Check.same("JMP alone", lookups(x, 0, 1), 1);
            Check.same("STOP alone", lookups(x, 64, 1), 1);
        }
        Check.same("no link by that", lookups(x, 0, 2), 2);
        Check.same("a link by this", lookups(x, 0, 2), 1);
        Check.same("JMP alone", lookups(x, 0, 1), 1);
        x.run(1);
        Check.counts("the next run does not use it", x, 6, 3 * 2 + 2 + 1 + 1 + 1);
    }

    /** The block there is in the cache already, the first of all: that is no link. */
    private static void noLinkBeforeItIsTaken() {
        for (int taken = 0; taken <= 1; taken++) {
            BlockCache x = new BlockCache();
            Check.load(x, 94, 0xC1, 160);
            Check.same("STOP alone", lookups(x, taken == 1 ? 160 : 96, 1), 1);
            x.set(5, taken);
            linked("exit " + taken, x, 94, 2);
            Check.counts("two blocks", x, 3, 2);
        }
    }

    /** The interrupt's code is RET: back to the place of the exit, but with an interrupt between. */
    private static void noInterruptBetween() {
        BlockCache x = Check.with(0xC0, 64);
        Check.load(x, 240, 0xD1);
        x.set(8, 1);
        x.request(1);
        Check.same("JMP, RET, STOP", lookups(x, 0, 3), 3);
        Check.counts("an interrupt", x, 8, 1);
        Check.same("no link by that", lookups(x, 0, 2), 2);
        Check.same("a link by this", lookups(x, 0, 2), 1);
        x.set(8, 1);
        x.request(x.count(0) + 1);
        Check.same("not used behind an interrupt", lookups(x, 0, 3), 3);
        Check.same("but there still", lookups(x, 0, 2), 1);
    }

    /** Interpreted there (too few left, a request, too large): no link. */
    private static void aBlockIsRunThere() {
        BlockCache few = Check.with(0xC0, 64);
        Check.load(few, 64, MOV, MOV, 0);
        Check.same("too few left", lookups(few, 0, 3), 3);
        Check.counts("two interpreted", few, 7, 2);
        Check.same("no link by that", lookups(few, 0, 4), 2);
        Check.same("a link by this", lookups(few, 0, 4), 1);
        BlockCache asked = Check.with(0xC0, 64);
        Check.load(asked, 64, MOV, MOV, 0);
        asked.request(2);
        Check.same("a request before the last", lookups(asked, 0, 4), 3);
        Check.counts("one interpreted", asked, 7, 1);
        Check.same("no link by that", lookups(asked, 0, 4), 2);
        BlockCache large = Check.with(0xC0, 64);
        Check.load(large, 64, MOV, 0);
        large.room(1);
        Check.same("too large", lookups(large, 0, 3), 3);
        Check.counts("one interpreted", large, 7, 1);
    }

    /** Nothing that a caller does between runs takes a link, if it leaves both blocks. */
    private static void fromThenOn() {
        BlockCache x = Check.with(0xC0, 64);
        Check.same("first", lookups(x, 0, 2), 2);
        x.set(0, 9);
        x.input(1);
        x.peek(0);
        x.get(0);
        x.output(0);
        x.poke(32, 0, 4);
        x.poke(96, 0, 4);
        x.request(1000);
        Check.same("other runs between", lookups(x, 150, 1), 1);
        Check.same("it is there", lookups(x, 0, 2), 1);
        othersTakeNone();
    }

    /** A link at 20 and one at 47; then blocks are made at every other place of pages 3 to 6. */
    private static void othersTakeNone() {
        BlockCache x = new BlockCache();
        Check.load(x, 20, 0xC1, 250, 0);
        Check.load(x, 47, 0xC1, 250, 0);
        linked("behind 20", x, 20, 2);
        linked("behind 47", x, 47, 2);
        x.set(5, 1);
        Check.same("n of 20", lookups(x, 20, 2), 2);
        Check.same("n of 47", lookups(x, 47, 2), 1 + 1);
        for (int place = 96; place < 160; place++) {
            x.set(9, place);
            x.run(1);
        }
        Check.counts("69 blocks", x, 1, 69, 5, 0);
        for (int taken = 0; taken <= 1; taken++) {
            x.set(5, taken);
            Check.same("20 has its link still", lookups(x, 20, 2), 1);
            Check.same("47 has its link still", lookups(x, 47, 2), 1);
        }
    }

    private static void asLongAsBothAreInTheCache() {
        BlockCache x = Check.with(0xC0, 64);
        Check.same("first", lookups(x, 0, 2), 2);
        x.poke(0, 0xC0000000, 1);
        Check.same("the first block was gone", lookups(x, 0, 2), 2);
        Check.same("linked again", lookups(x, 0, 2), 1);
        x.poke(64, 0, 1);
        Check.same("the second block was gone", lookups(x, 0, 2), 2);
        Check.same("linked again", lookups(x, 0, 2), 1);
        x.poke(64, 0, 1);
        Check.same("translated by itself", lookups(x, 64, 1), 1);
        Check.same("another block there: no link", lookups(x, 0, 2), 2);
        Check.same("linked again", lookups(x, 0, 2), 1);
        x.room(100);
        Check.same("room", lookups(x, 0, 2), 2);
        Check.same("linked again", lookups(x, 0, 2), 1);
        x.poke(0, 0xC0000000, 1);
        Check.same("the first alone", lookups(x, 0, 1), 1);
        Check.same("another block here: no link", lookups(x, 0, 2), 2);
        aBlockMadeAnewHasNoLinks();
        guestWrites();
    }

    /** At 94 JMP with n 160, or 96 behind: each exit alone, and its block alone is gone. */
    private static void aBlockMadeAnewHasNoLinks() {
        for (int taken = 0; taken <= 1; taken++) {
            BlockCache x = new BlockCache();
            Check.load(x, 94, 0xC1, 160);
            x.set(5, taken);
            linked("exit " + taken, x, 94, 2);
            x.poke(64, 0, 1);
            Check.counts("the target stays", x, 1, 1);
            Check.same("exit " + taken + " made anew", lookups(x, 94, 2), 2);
            Check.same("exit " + taken + " linked again", lookups(x, 94, 2), 1);
        }
    }

    /** ST between: the target, or the block with the exit, is gone and made anew. */
    private static void guestWrites() {
        // At 96: ST A at B + 0; STOP
        BlockCache x = Check.with(0xC0, 64);
        Check.load(x, 96, 0xB1, 0, 0);
        Check.same("first", lookups(x, 0, 2), 2);
        x.set(1, 95);
        Check.same("ST in page 2", lookups(x, 96, 2), 1);
        Check.same("no link", lookups(x, 0, 2), 2);
        Check.same("linked again", lookups(x, 0, 2), 1);
        x.set(1, 31);
        Check.same("ST in page 0", lookups(x, 96, 2), 1);
        Check.same("no link", lookups(x, 0, 2), 2);
        x.set(1, 32);
        Check.same("ST in page 1", lookups(x, 96, 2), 1);
        Check.same("the link stays", lookups(x, 0, 2), 1);
        Check.counts("two were INVALIDATED", x, 4, 2);
    }

    /** Translating the next block takes the one with the exit: no link. */
    private static void aFlushBetween() {
        BlockCache x = Check.with(MOV, MOV, 0xC0, 64);
        Check.load(x, 64, MOV, MOV, 0);
        x.room(5);
        for (int i = 1; i <= 3; i++) {
            Check.same("3 and 3 in 5", lookups(x, 0, 6), 2);
            Check.counts("run " + i, x, 3, 2 * i, 5, 2 * i - 1, 1, 1);
        }
        x.room(6);
        linked("3 and 3 in 6", x, 0, 6);
    }

    private static void toItself() {
        BlockCache x = Check.with(MOV, 0xC0, 0);
        Check.same("a loop: translated, linked", lookups(x, 0, 20), 2);
        Check.same("linked", lookups(x, 0, 20), 1);
        BlockCache y = Check.with(0xF4, 0, 0);
        y.set(1, 100);
        Check.same("DJNZ to itself, then behind", lookups(y, 0, 101), 3);
        y.set(1, 100);
        Check.same("both linked", lookups(y, 0, 101), 1);
    }

    /** Also if the block that it leads to may not be run then. */
    private static void withALinkThereIsNoLookup() {
        BlockCache x = Check.with(0xC0, 64);
        Check.load(x, 64, MOV, MOV, 0);
        Check.same("first", lookups(x, 0, 4), 2);
        Check.same("one left behind the link", lookups(x, 0, 2), 1);
        Check.counts("interpreted", x, 7, 1, 3, 2);
        Check.same("two left: a lookup behind what was interpreted", lookups(x, 0, 3), 2);
        Check.same("the link is there still", lookups(x, 0, 4), 1);
    }
}
