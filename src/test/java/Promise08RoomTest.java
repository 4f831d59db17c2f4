public final class Promise08RoomTest {
    public static void main(String[] args) {
        emptiesTheCache();
        limitsABlock();
        flushesWhatDoesNotFit();
        linksAreGone();
        theGreatestRoom();
        wrongArguments();
        Check.finish();
    }

    private static void emptiesTheCache() {
        BlockCache x = new BlockCache();
        x.run(1);
        Check.counts("one block", x, 1, 1, 2, 1);
        x.room(400);
        Check.counts("empty, not counted", x, 1, 0, 2, 0, 3, 1, 4, 0, 5, 0);
        x.set(9, 0);
        x.run(1);
        Check.counts("translated anew", x, 1, 1, 2, 1, 3, 2);
    }

    /** MOV, MOV, STOP has 3. */
    private static void limitsABlock() {
        BlockCache x = Check.with(0x10, 0x10, 0x00);
        x.room(2);
        Check.same("run", x.run(9), 3);
        // The blocks at 1 (2) and at 2 (1) fit; the run at 1 takes both instructions.
        Check.counts("3 does not fit in 2", x, 1, 1, 2, 2, 3, 1, 6, 2, 7, 1, 11, 1);
        x.room(3);
        x.set(9, 0);
        Check.same("run", x.run(9), 3);
        Check.counts("3 fits in 3", x, 1, 1, 2, 3, 3, 2, 6, 3, 7, 1);
        x.room(1);
        x.set(9, 0);
        Check.same("run", x.run(9), 3);
        Check.counts("only STOP fits in 1", x, 1, 1, 2, 1, 3, 3, 6, 6, 7, 3);
    }

    /** At 0 a block of 3 to 8, there one of 3 back; together 6. */
    private static void flushesWhatDoesNotFit() {
        for (int size = 3; size <= 7; size++) {
            BlockCache x = Check.with(0x10, 0x10, 0xC0, 8);
            Check.load(x, 8, 0x10, 0x10, 0xC0, 0);
            x.room(size);
            x.run(12);
            boolean both = size >= 6;
            Check.counts("room " + size, x, 0, 12, 1, both ? 2 : 1, 2, both ? 6 : 3,
                3, both ? 2 : 4, 4, 0, 5, both ? 0 : 3, 6, both ? 3 : 4, 7, 0);
        }
    }

    /** Seven blocks of eight ROR have 57 each: 399. */
    private static void theGreatestRoom() {
        BlockCache x = new BlockCache();
        for (int place = 0; place < 56; place += 4) {
            x.poke(place, 0x83838383, 4);
        }
        x.room(400);
        x.run(56);
        Check.counts("seven of 57", x, 1, 7, 2, 399, 5, 0, 7, 0);
        x.set(9, 128);
        x.run(1);
        Check.counts("400", x, 1, 8, 2, 400, 5, 0);
        x.set(9, 129);
        x.run(1);
        Check.counts("one more", x, 1, 1, 2, 1, 5, 1);
        x.room(1);
        Check.counts("the least room", x, 1, 0, 2, 0, 5, 1);
        x.set(9, 129);
        x.run(1);
        x.set(9, 130);
        x.run(1);
        Check.counts("one of 1 at a time", x, 1, 1, 2, 1, 5, 2, 7, 0);
    }

    private static void linksAreGone() {
        BlockCache x = Check.with(0xC0, 0);
        x.run(5);
        Check.counts("linked to itself", x, 6, 2);
        x.room(100);
        x.run(5);
        Check.counts("a lookup to translate, one to link", x, 6, 4);
    }

    private static void wrongArguments() {
        BlockCache x = new BlockCache();
        x.room(1);
        x.run(1);
        String before = Check.visible(x);
        Check.argument("0", () -> x.room(0));
        Check.argument("401", () -> x.room(401));
        Check.argument("-1", () -> x.room(-1));
        Check.argument("greatest", () -> x.room(Integer.MAX_VALUE));
        Check.argument("least", () -> x.room(Integer.MIN_VALUE));
        Check.sameText("what throws changes nothing", Check.visible(x), before);
        Check.load(x, 64, 0x10, 0x00);
        x.set(9, 64);
        x.run(2);
        Check.counts("room is 1 still", x, 7, 1);
    }
}
