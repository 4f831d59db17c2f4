/** Which ends of blocks are exits, and when they have a link: seen by the lookups. */
public final class LinkTest {
    public static void main(String[] args) {
        eachKindOfEnd();
        bothEndsOfOneJump();
        oneExitWhereNIsBehind();
        linksLastOverRuns();
        aLinkNeedsBothBlocks();
        notByWhatIsInterpreted();
        aLinkWithoutRoomToRun();
        anExitIsTakenAtOnceOrNot();
        aFlushTakesTheExit();
        Check.finish();
    }

    /** Runs the same way again and again: lookups of the first, the second and the third run. */
    private static void ways(String what, BlockCache x, int many, int first, int second, int third) {
        int[] due = {first, second, third};
        for (int i = 0; i < 3; i++) {
            int before = x.count(6);
            x.set(9, 0);
            x.set(4, 128);
            x.run(many);
            Check.same(what + ": lookups of run " + i, x.count(6) - before, due[i]);
        }
        Check.counts(what + ": interpreted", x, 7, 0);
    }

    private static void eachKindOfEnd() {
        BlockCache jump = Check.with(0xC0, 64);
        ways("JMP always", jump, 2, 2, 1, 1);
        BlockCache call = Check.with(0xD0, 64);
        ways("CALL", call, 2, 2, 1, 1);
        BlockCache ei = Check.with(0x03, 0x00);
        ways("EI", ei, 2, 2, 1, 1);
        BlockCache eight = Check.with(0x10, 0x10, 0x10, 0x10, 0x10, 0x10, 0x10, 0x10, 0x00);
        ways("the eighth", eight, 9, 2, 1, 1);
        BlockCache taken = Check.with(0xC2, 64);
        ways("JMP if not Z, taken", taken, 2, 2, 1, 1);
        BlockCache notTaken = Check.with(0xC1, 64, 0x00);
        ways("JMP if Z, not taken", notTaken, 2, 2, 1, 1);
        BlockCache down = Check.with(0xF4, 64);
        ways("DJNZ", down, 2, 2, 1, 1);
        BlockCache back = Check.with(0xD0, 64, 0x00);
        Check.load(back, 64, 0xD1);
        // RET has no exit: at 2 there is a lookup each time.
        ways("CALL and RET", back, 3, 3, 2, 2);
        BlockCache bad = Check.with(0x10, 0x05);
        ways("before BAD, where no block is", bad, 5, 2, 2, 2);
    }

    private static void bothEndsOfOneJump() {
        BlockCache x = Check.with(0xF4, 64, 0x00);
        x.set(1, 2);
        ways("DJNZ taken once, then not", x, 2, 2, 2, 1);
    }

    /** The exit is told by its place: taken or not, it is the same one. */
    private static void oneExitWhereNIsBehind() {
        BlockCache x = Check.with(0xC1, 2, 0x00);
        x.run(2);
        Check.counts("not taken", x, 6, 2);
        x.set(5, 1);
        x.set(9, 0);
        x.run(2);
        Check.counts("taken", x, 6, 3);
    }

    private static void linksLastOverRuns() {
        BlockCache x = Check.with(0xC0, 0);
        x.run(1);
        Check.counts("first run", x, 6, 1);
        x.run(1);
        Check.counts("a run begins with a lookup, and there is no exit before it", x, 6, 2);
        x.run(2);
        Check.counts("linked in this run", x, 6, 4);
        x.run(3);
        Check.counts("the link is there", x, 6, 5);
    }

    private static void aLinkNeedsBothBlocks() {
        BlockCache x = Check.with(0xC0, 64);
        x.run(2);
        Check.counts("linked", x, 6, 2, 3, 2);
        x.poke(95, 0, 1);
        x.set(9, 0);
        x.run(2);
        Check.counts("the target was gone", x, 6, 4, 3, 3);
        x.set(9, 0);
        x.run(2);
        Check.counts("linked anew", x, 6, 5, 3, 3);
        x.poke(31, 0, 1);
        x.set(9, 0);
        x.run(2);
        Check.counts("the source was gone", x, 6, 7, 3, 4);
        x.poke(95, 0, 1);
        x.set(9, 64);
        x.run(1);
        Check.counts("the target is translated anew before", x, 6, 8, 3, 5);
        x.set(9, 0);
        x.run(2);
        Check.counts("it is another block than the linked one", x, 6, 10, 3, 5);
    }

    /** JMP to 64, where a block of 3 is: with 2 left it is not run. */
    private static void notByWhatIsInterpreted() {
        BlockCache x = Check.with(0xC0, 64);
        Check.load(x, 64, 0x10, 0x10, 0xC0, 0);
        x.run(2);
        Check.counts("interpreted at 64", x, 6, 2, 7, 1);
        x.set(9, 0);
        x.run(4);
        Check.counts("no link by that", x, 6, 4, 7, 1);
        x.set(9, 0);
        x.run(4);
        Check.counts("a link by this", x, 6, 5, 7, 1);
        BlockCache y = Check.with(0xC0, 0);
        y.room(1);
        Check.load(y, 0, 0x10, 0xC0, 1);
        y.run(3);
        // Lookups at 0 (too large), 1, 1; then the link.
        Check.counts("interpreted before a block", y, 6, 3, 7, 1);
    }

    private static void aLinkWithoutRoomToRun() {
        BlockCache x = Check.with(0xC0, 64);
        Check.load(x, 64, 0x10, 0x10, 0xC0, 0);
        x.run(4);
        Check.counts("linked", x, 6, 2, 7, 0);
        x.set(9, 0);
        x.run(2);
        Check.counts("found by the link, interpreted", x, 6, 3, 7, 1);
        x.set(9, 0);
        x.run(3);
        Check.counts("and a lookup behind the interpreted one", x, 6, 5, 7, 3);
    }

    /** What is interpreted between takes no exit from the block before it. */
    private static void anExitIsTakenAtOnceOrNot() {
        BlockCache x = Check.with(0xC0, 64);
        Check.load(x, 64, 0x10, 0xC0, 80);
        x.run(3);
        Check.counts("0 is linked to 64", x, 6, 2);
        x.set(9, 0);
        x.request(5);
        x.run(3);
        // At 64 one is interpreted, for the request; at 65 a block is run.
        Check.counts("interpreted between", x, 6, 4, 7, 1);
        x.set(9, 0);
        x.run(3);
        Check.counts("0 is linked to 64 still", x, 6, 5, 7, 1);
    }

    private static void aFlushTakesTheExit() {
        BlockCache x = Check.with(0xC0, 64);
        x.room(1);
        for (int i = 1; i <= 3; i++) {
            x.set(9, 0);
            x.run(2);
            Check.counts("run " + i, x, 6, 2 * i, 3, 2 * i, 5, 2 * i - 1, 1, 1);
        }
    }
}
