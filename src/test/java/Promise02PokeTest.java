public final class Promise02PokeTest {
    public static void main(String[] args) {
        fourBytes();
        fewerAreTheHighest();
        wrapsAround();
        everyPlaceAndMany();
        onlyThePagesOfItsBytes();
        dropsBlocksOfItsPages();
        reachesBlocksThatBeginBefore();
        wrongArguments();
        Check.finish();
    }

    private static void fourBytes() {
        BlockCache x = new BlockCache();
        x.poke(10, 0x81FF0203, 4);
        Check.same("byte 0", x.peek(10), 0x81);
        Check.same("byte 1", x.peek(11), 0xFF);
        Check.same("byte 2", x.peek(12), 2);
        Check.same("byte 3", x.peek(13), 3);
        Check.same("before", x.peek(9), 0);
        Check.same("behind", x.peek(14), 0);
    }

    private static void fewerAreTheHighest() {
        for (int many = 1; many <= 3; many++) {
            BlockCache x = new BlockCache();
            x.poke(0, 0x01020304, many);
            for (int i = 0; i < 4; i++) {
                Check.same("many " + many + " byte " + i, x.peek(i), i < many ? i + 1 : 0);
            }
        }
    }

    private static void wrapsAround() {
        BlockCache x = new BlockCache();
        x.poke(255, 0x0A0B0C0D, 4);
        Check.same("255", x.peek(255), 10);
        Check.same("0", x.peek(0), 11);
        Check.same("2", x.peek(2), 13);
    }

    /** From each place, so many bytes and no more. */
    private static void everyPlaceAndMany() {
        for (int place = 0; place <= 255; place++) {
            BlockCache x = new BlockCache();
            int many = 1 + place % 4;
            x.poke(place, 0xF1F2F3F4, many);
            for (int i = -1; i <= 4; i++) {
                Check.same("place " + place + " many " + many + " byte " + i, x.peek((place + i) & 255),
                    i >= 0 && i < many ? 0xF1 + i : 0);
            }
        }
        for (int place = 252; place <= 255; place++) {
            BlockCache y = new BlockCache();
            y.poke(place, 0xF1F2F3F4, 4);
            for (int i = 0; i < 4; i++) {
                Check.same("four from " + place, y.peek((place + i) & 255), 0xF1 + i);
            }
        }
    }

    /** A STOP in each page; up to a page's last byte, or over it. */
    private static void onlyThePagesOfItsBytes() {
        for (int page = 0; page < 8; page++) {
            for (int place = 32 * page + 27; place <= 32 * page + 32; place++) {
                for (int many = 1; many <= 4; many++) {
                    BlockCache x = new BlockCache();
                    for (int first = 8; first < 256; first += 32) {
                        x.set(9, first);
                        x.run(1);
                    }
                    x.poke(place & 255, 0, many);
                    boolean two = place <= 32 * page + 31 && place + many > 32 * page + 32;
                    Check.counts("poke at " + place + " many " + many, x, 1, two ? 6 : 7, 2, two ? 6 : 7, 4, 0, 5, 0);
                }
            }
        }
    }

    private static void dropsBlocksOfItsPages() {
        BlockCache x = new BlockCache();
        for (int place = 0; place < 256; place += 32) {
            x.set(9, place);
            x.run(1);
        }
        Check.counts("a block a page", x, 1, 8, 2, 8);
        x.poke(95, 0, 1);
        Check.counts("one page", x, 1, 7, 2, 7, 4, 0, 5, 0);
        x.poke(96, 0, 1);
        Check.counts("the next page", x, 1, 6, 2, 6);
        x.poke(31, 0, 2);
        Check.counts("over a page's end", x, 1, 4, 2, 4);
        x.poke(254, 0, 4);
        Check.counts("over memory's end", x, 1, 3, 2, 3, 4, 0, 5, 0, 3, 8);
        x.poke(254, 0, 2);
        Check.counts("nothing there", x, 1, 3);
    }

    private static void reachesBlocksThatBeginBefore() {
        BlockCache x = new BlockCache();
        // Its eight instructions have sixteen bytes, 17 to 32: only the last n is in page 1.
        for (int i = 0; i < 8; i++) {
            Check.load(x, 17 + 2 * i, 0x90, i);
        }
        x.set(9, 17);
        x.run(8);
        Check.counts("kept", x, 1, 1, 7, 0);
        x.poke(63, 0, 1);
        Check.counts("its last byte's page", x, 1, 0, 2, 0, 4, 0);
        x.set(9, 16);
        x.poke(16, 0x10000000, 1);
        x.run(8);
        Check.counts("one place before", x, 1, 1);
        x.poke(63, 0, 1);
        Check.counts("it ends before page 1", x, 1, 1);
        x.poke(31, 0, 1);
        Check.counts("it ends in page 0", x, 1, 0);
    }

    private static void wrongArguments() {
        BlockCache x = new BlockCache();
        x.run(1);
        String before = Check.visible(x);
        Check.argument("place -1", () -> x.poke(-1, -1, 4));
        Check.argument("place 256", () -> x.poke(256, -1, 4));
        Check.argument("many 0", () -> x.poke(0, -1, 0));
        Check.argument("many 5", () -> x.poke(0, -1, 5));
        Check.argument("many -1", () -> x.poke(0, -1, -1));
        Check.argument("many least", () -> x.poke(0, -1, Integer.MIN_VALUE));
        Check.argument("place greatest", () -> x.poke(Integer.MAX_VALUE, -1, 1));
        Check.sameText("what throws changes nothing", Check.visible(x), before);
        Check.same("memory stays", x.peek(0), 0);
    }
}
