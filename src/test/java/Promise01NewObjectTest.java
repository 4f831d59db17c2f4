public final class Promise01NewObjectTest {
    public static void main(String[] args) {
        BlockCache x = new BlockCache();
        for (int what = 0; what <= 9; what++) {
            Check.same("get(" + what + ")", x.get(what), 0);
        }
        for (int place = 0; place <= 255; place++) {
            Check.same("peek(" + place + ")", x.peek(place), 0);
        }
        for (int what = 0; what <= 11; what++) {
            Check.same("count(" + what + ")", x.count(what), 0);
        }
        Check.same("output(0)", x.output(0), BlockCache.NONE);
        Check.same("NONE", BlockCache.NONE, -1);
        noInputIsZero();
        noRequests();
        roomIsHundred();
        objectsAreApart();
        Check.finish();
    }

    private static void noInputIsZero() {
        BlockCache x = Check.with(0x02, 0x00);
        x.set(0, 9);
        x.run(2);
        Check.same("IN with nothing to read", x.get(0), 0);
    }

    private static void noRequests() {
        BlockCache x = new BlockCache();
        x.set(8, 1);
        x.run(1);
        Check.counts("no request at first", x, 8, 0);
        Check.same("the first request", x.request(1), 1);
    }

    private static void roomIsHundred() {
        BlockCache x = new BlockCache();
        // 25 blocks of size 4 (PUSH, PUSH, PUSH, JMP always) at 0, 5, 10, ... fill the room.
        for (int i = 0; i < 25; i++) {
            Check.load(x, 5 * i, 0xE0, 0xE0, 0xE0, 0xC0, 5 * i + 5);
        }
        x.set(4, 255);
        x.run(100);
        Check.counts("25 blocks of 4", x, 1, 25, 2, 100, 5, 0);
        x.run(1);
        Check.counts("a block more", x, 1, 1, 2, 1, 5, 1);
    }

    private static void objectsAreApart() {
        BlockCache x = Check.with(0x90, 7, 0x01, 0x00);
        x.run(3);
        BlockCache y = new BlockCache();
        Check.same("another object's A", y.get(0), 0);
        Check.same("another object's memory", y.peek(0), 0);
        Check.same("another object's output", y.output(0), -1);
    }
}
