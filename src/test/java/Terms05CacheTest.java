/** Terms: "THE CACHE has BLOCKS of at most ROOM in SIZES together", PAGES and what INVALIDATES. */
public final class Terms05CacheTest {
    private static final int MOV = 0x10;

    public static void main(String[] args) {
        hundredAtFirst();
        exactlyFullOrOneTooMany();
        aBlockOfRoomAndOneOfMore();
        tooLargeLeavesTheOthers();
        aFlushIsCountedOnce();
        anEmptyCacheIsNotFlushed();
        whatIsGoneMakesRoom();
        firstAndLastByteOfEachPage();
        onlyANInThePage();
        aBadByteBehindIsNotInIt();
        inTwoPagesCountedOnce();
        theOneThatRunsEndsBehindTheWriter();
        theOneThatRunsStaysForAnotherPage();
        aReadInvalidatesNothing();
        Check.finish();
    }

    /** A block of a size from 1 to 8 at a place: MOVs and a STOP. Run whole. */
    private static void block(BlockCache x, int place, int size) {
        for (int i = 0; i < size; i++) {
            Check.load(x, (place + i) & 255, i < size - 1 ? MOV : 0);
        }
        again(x, place, size);
    }

    private static void again(BlockCache x, int place, int size) {
        x.set(9, place);
        Check.same("a block of " + size + " at " + place, x.run(size), size);
    }

    private static void hundredAtFirst() {
        for (int last = 3; last <= 6; last++) {
            BlockCache x = new BlockCache();
            // Loading drops blocks of the page, so all is loaded before the first run.
            for (int i = 0; i < 12; i++) {
                Check.load(x, 8 * i, MOV, MOV, MOV, MOV, MOV, MOV, MOV, 0);
            }
            for (int i = 0; i < last; i++) {
                Check.load(x, 128 + i, i < last - 1 ? MOV : 0);
            }
            for (int i = 0; i < 12; i++) {
                again(x, 8 * i, 8);
            }
            Check.counts("twelve of 8", x, 1, 12, 2, 96, 5, 0);
            again(x, 128, last);
            boolean fits = 96 + last <= 100;
            Check.counts("96 and " + last, x, 1, fits ? 13 : 1, 2, fits ? 96 + last : last, 5, fits ? 0 : 1, 3, 13);
        }
    }

    private static void exactlyFullOrOneTooMany() {
        for (int first = 1; first <= 8; first++) {
            for (int second = 1; second <= 8; second++) {
                for (int room = Math.max(first, second); room <= first + second + 1; room++) {
                    BlockCache x = new BlockCache();
                    x.room(room);
                    block(x, 0, first);
                    block(x, 64, second);
                    boolean fits = first + second <= room;
                    Check.counts(first + " and " + second + " in " + room, x, 1, fits ? 2 : 1,
                        2, fits ? first + second : second, 3, 2, 4, 0, 5, fits ? 0 : 1, 7, 0);
                }
            }
        }
    }

    /** The greatest room and block: eight ROR have 8 * 7 and 1. */
    private static void aBlockOfRoomAndOneOfMore() {
        for (int size = 1; size <= 8; size++) {
            BlockCache x = new BlockCache();
            x.room(size);
            block(x, 0, size);
            Check.counts("size " + size + " in room " + size, x, 1, 1, 2, size, 3, 1, 5, 0, 7, 0);
            if (size > 1) {
                x.room(size - 1);
                x.set(9, 0);
                x.run(1);
                Check.counts("size " + size + " in one less", x, 1, 0, 2, 0, 3, 1, 5, 0, 7, 1);
            }
        }
        for (int room = 56; room <= 57; room++) {
            BlockCache x = Check.with(0x83, 0x83, 0x83, 0x83, 0x83, 0x83, 0x83, 0x83);
            x.room(room);
            x.run(1);
            Check.counts("57 in " + room, x, 1, room - 56, 2, 57 * (room - 56), 3, room - 56, 6, 1, 7, 1);
        }
    }

    private static void tooLargeLeavesTheOthers() {
        BlockCache x = Check.with(MOV, MOV, 0);
        Check.load(x, 64, MOV, MOV, MOV, 0);
        x.room(3);
        again(x, 0, 3);
        x.set(9, 64);
        x.run(1);
        Check.counts("4 in 3", x, 1, 1, 2, 3, 3, 1, 5, 0, 6, 2, 7, 1);
        again(x, 0, 3);
        Check.counts("that of 3 is there still", x, 1, 1, 3, 1, 5, 0, 6, 3, 7, 1);
    }

    private static void aFlushIsCountedOnce() {
        BlockCache x = new BlockCache();
        x.room(32);
        for (int place = 0; place < 32; place++) {
            again(x, 8 * place, 1);
        }
        Check.counts("32 of 1", x, 1, 32, 2, 32, 5, 0);
        again(x, 1, 1);
        Check.counts("one more", x, 1, 1, 2, 1, 3, 33, 4, 0, 5, 1);
        again(x, 0, 1);
        Check.counts("those before are gone", x, 1, 2, 3, 34, 5, 1);
    }

    private static void anEmptyCacheIsNotFlushed() {
        BlockCache x = new BlockCache();
        x.room(1);
        again(x, 0, 1);
        Check.counts("the first", x, 5, 0);
        x.poke(0, 0, 1);
        again(x, 64, 1);
        Check.counts("behind a poke", x, 5, 0, 1, 1);
        x.room(1);
        again(x, 0, 1);
        Check.counts("behind room", x, 5, 0, 1, 1);
    }

    private static void whatIsGoneMakesRoom() {
        BlockCache x = Check.with(MOV, MOV, 0);
        Check.load(x, 64, MOV, 0);
        // At 128: ST A at A + 0; STOP: 4 and 1.
        Check.load(x, 128, 0xB0, 0, 0);
        x.room(10);
        again(x, 0, 3);
        again(x, 64, 2);
        again(x, 128, 2);
        Check.counts("3 and 2 and 5, less 3 that ST took", x, 1, 2, 2, 7, 4, 1, 5, 0);
        // At 0 the 0 that was written is a STOP.
        again(x, 0, 1);
        again(x, 1, 2);
        Check.counts("1 and 2 more fit", x, 1, 4, 2, 10, 5, 0);
        again(x, 2, 1);
        Check.counts("1 more does not", x, 1, 1, 2, 1, 5, 1);
    }

    private static final int ST = 0;
    private static final int PUSH = 1;
    private static final int CALL = 2;
    private static final int INTERRUPT = 3;

    /** STOPs at the page's first and last place, and at those before and behind it. */
    private static void firstAndLastByteOfEachPage() {
        for (int page = 0; page < 8; page++) {
            for (int offset : new int[] {0, 1, 30, 31}) {
                for (int writer = ST; writer <= INTERRUPT; writer++) {
                    BlockCache x = new BlockCache();
                    int first = 32 * page;
                    for (int place : new int[] {first - 1, first, first + 31, first + 32}) {
                        again(x, place & 255, 1);
                    }
                    Check.counts("four", x, 1, 4);
                    write(x, writer, (first + 128) & 255, first + offset);
                    Check.counts("writer " + writer + " at page " + page + " place " + offset, x, 4, 2);
                    int before = x.count(3);
                    again(x, (first - 1) & 255, 1);
                    again(x, (first + 32) & 255, 1);
                    Check.counts("the pages beside it stay", x, 3, before);
                }
            }
        }
    }

    /** Writes a byte by code in the page at a place. */
    private static void write(BlockCache x, int writer, int code, int place) {
        x.set(9, code);
        x.set(4, (place + 1) & 255);
        x.set(1, place);
        if (writer == ST) {
            Check.load(x, code, 0xB1, 0, 0);
            x.run(2);
        } else if (writer == PUSH) {
            Check.load(x, code, 0xE0, 0);
            x.run(2);
        } else if (writer == CALL) {
            Check.load(x, code, 0xD0, code + 8);
            x.run(1);
        } else {
            x.set(8, 1);
            x.request(x.count(0));
            x.run(1);
            Check.counts("interrupt", x, 8, 1);
        }
    }

    /** JMP at a page's last byte: only its n is in the next page. */
    private static void onlyANInThePage() {
        for (int page = 0; page < 8; page++) {
            for (int side = 0; side <= 1; side++) {
                BlockCache x = new BlockCache();
                int place = 32 * page + 31;
                Check.load(x, place, 0xC0, 32 * ((page + 4) % 8) + 16);
                x.set(9, place);
                x.run(1);
                Check.counts("kept", x, 1, 1);
                // The n's page, or the JMP's own.
                x.poke((place + (side == 0 ? 32 : -31)) & 255, 0, 1);
                Check.counts("page " + page + " side " + side, x, 1, 0, 2, 0, 4, 0);
            }
        }
    }

    private static void aBadByteBehindIsNotInIt() {
        for (int page = 0; page < 8; page++) {
            BlockCache x = new BlockCache();
            int place = 32 * page + 31;
            Check.load(x, place, MOV, 0x05);
            x.set(9, place);
            x.run(1);
            x.poke((place + 1) & 255, 0, 1);
            Check.counts("BAD in the next page", x, 1, 1, 2, 2);
            x.poke((place + 32) & 255, 0, 1);
            Check.counts("the next page's end", x, 1, 1);
            x.poke(place, 0, 1);
            Check.counts("its own page", x, 1, 0);
        }
    }

    private static void inTwoPagesCountedOnce() {
        BlockCache x = new BlockCache();
        Check.load(x, 30, MOV, MOV, MOV, 0);
        again(x, 30, 4);
        write(x, ST, 128, 63);
        Check.counts("by page 1", x, 4, 1, 1, 1);
        again(x, 30, 4);
        write(x, ST, 128, 0);
        Check.counts("by page 0", x, 4, 2);
        BlockCache y = new BlockCache();
        Check.load(y, 254, MOV, MOV, MOV, 0);
        again(y, 254, 4);
        write(y, ST, 128, 31);
        Check.counts("over memory's end, by page 0", y, 4, 1);
        again(y, 254, 4);
        write(y, ST, 128, 224);
        Check.counts("over memory's end, by page 7", y, 4, 2);
    }

    /** Eight, of which one is ST A at B + 0 with B = 127, in the block's own page. */
    private static void theOneThatRunsEndsBehindTheWriter() {
        for (int i = 0; i < 8; i++) {
            BlockCache x = new BlockCache();
            for (int place = 96; place < 128; place++) {
                x.poke(place, MOV << 24, 1);
            }
            Check.load(x, 96 + i, 0xB1, 0);
            x.set(1, 127);
            x.set(9, 96);
            Check.same("run", x.run(8), 8);
            Check.same("written", x.peek(127), 0);
            // What is left of the run is less than the next block has.
            Check.counts("ST as number " + i, x, 4, 1, 6, 8 - i, 7, 7 - i);
            Check.same("PC", x.get(9), 96 + 9);
        }
    }

    private static void theOneThatRunsStaysForAnotherPage() {
        for (int target : new int[] {95, 128}) {
            BlockCache x = new BlockCache();
            for (int place = 96; place < 128; place++) {
                x.poke(place, MOV << 24, 1);
            }
            Check.load(x, 98, 0xB1, 0);
            x.set(1, target);
            x.set(9, 96);
            Check.same("run", x.run(8), 8);
            Check.counts("ST at " + target, x, 1, 1, 4, 0, 6, 1, 7, 0);
        }
    }

    /** LD, POP and RET read; OUT and IN touch no memory. */
    private static void aReadInvalidatesNothing() {
        BlockCache x = Check.with(0xA0, 0, 0xE1, 0x01, 0x02, 0xD1);
        x.set(4, 31);
        x.run(5);
        Check.counts("read in its own page", x, 1, 1, 4, 0, 7, 0);
    }
}
