public final class Promise04SetTest {
    public static void main(String[] args) {
        everyOneIsTold();
        theGuestSeesThem();
        wrongArguments();
        Check.finish();
    }

    private static void everyOneIsTold() {
        for (int what = 0; what <= 9; what++) {
            BlockCache x = new BlockCache();
            int most = what >= 5 && what <= 8 ? 1 : 255;
            for (int value : new int[] {most, 0, 1}) {
                x.set(what, value);
                Check.same("set(" + what + ", " + value + ")", x.get(what), value);
            }
            for (int other = 0; other <= 9; other++) {
                Check.same("set(" + what + ") leaves " + other, x.get(other), other == what ? 1 : 0);
            }
        }
    }

    private static void theGuestSeesThem() {
        // At 7: ADC A, B; PUSH C; OUT; STOP
        BlockCache x = new BlockCache();
        Check.load(x, 7, 0x31, 0xE8, 0x01, 0x00);
        x.set(0, 10);
        x.set(1, 20);
        x.set(2, 77);
        x.set(4, 200);
        x.set(6, 1);
        x.set(9, 7);
        x.run(4);
        Check.same("A + B + C", x.output(0), 31);
        Check.same("pushed", x.peek(199), 77);
    }

    private static void wrongArguments() {
        BlockCache x = new BlockCache();
        x.set(8, 1);
        String before = Check.visible(x);
        for (int what = 0; what <= 9; what++) {
            int w = what;
            Check.argument("value -1 of " + w, () -> x.set(w, -1));
            Check.argument("value 256 of " + w, () -> x.set(w, 256));
            Check.argument("least value of " + w, () -> x.set(w, Integer.MIN_VALUE));
            Check.argument("greatest value of " + w, () -> x.set(w, Integer.MAX_VALUE));
            if (what >= 5 && what <= 8) {
                Check.argument("value 2 of " + w, () -> x.set(w, 2));
                Check.argument("value 255 of " + w, () -> x.set(w, 255));
            }
        }
        Check.argument("what -1", () -> x.set(-1, 0));
        Check.argument("what 10", () -> x.set(10, 0));
        Check.argument("what greatest", () -> x.set(Integer.MAX_VALUE, 0));
        Check.argument("what least", () -> x.set(Integer.MIN_VALUE, 0));
        Check.sameText("what throws changes nothing", Check.visible(x), before);
    }
}
