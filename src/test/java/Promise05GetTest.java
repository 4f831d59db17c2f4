public final class Promise05GetTest {
    public static void main(String[] args) {
        // LDI D 200; ADD D, D (400: C, N); PUSH D; EI
        BlockCache x = Check.with(0x9C, 200, 0x2F, 0xEC, 0x03);
        x.run(4);
        int[] due = {0, 0, 0, 144, 255, 0, 1, 1, 1, 5};
        for (int what = 0; what <= 9; what++) {
            Check.same("get(" + what + ")", x.get(what), due[what]);
        }
        Check.argument("-1", () -> x.get(-1));
        Check.argument("10", () -> x.get(10));
        Check.argument("least", () -> x.get(Integer.MIN_VALUE));
        Check.argument("greatest", () -> x.get(Integer.MAX_VALUE));
        Check.finish();
    }
}
