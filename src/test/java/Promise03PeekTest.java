public final class Promise03PeekTest {
    public static void main(String[] args) {
        BlockCache x = new BlockCache();
        x.poke(0, 0xFF000000, 1);
        x.poke(255, 0x80000000, 1);
        Check.same("first", x.peek(0), 255);
        Check.same("last", x.peek(255), 128);
        Check.argument("-1", () -> x.peek(-1));
        Check.argument("256", () -> x.peek(256));
        Check.argument("least", () -> x.peek(Integer.MIN_VALUE));
        Check.argument("greatest", () -> x.peek(Integer.MAX_VALUE));
        everyPlace();
        seesWhatTheGuestWrites();
        Check.finish();
    }

    private static void everyPlace() {
        BlockCache x = new BlockCache();
        for (int place = 0; place < 256; place += 4) {
            x.poke(place, (255 - place) << 24 | (254 - place) << 16 | (253 - place) << 8 | (252 - place), 4);
        }
        for (int place = 0; place < 256; place++) {
            Check.same("peek(" + place + ")", x.peek(place), 255 - place);
        }
    }

    private static void seesWhatTheGuestWrites() {
        BlockCache x = Check.with(0x90, 0xAB, 0xB0, 0x15, 0x00);
        x.run(3);
        Check.same("ST A at A + 21", x.peek(0xC0), 0xAB);
    }
}
