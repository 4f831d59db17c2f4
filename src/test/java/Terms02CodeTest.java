/** Terms: which bytes are instructions, "All others are BAD", and the flags' edges. */
public final class Terms02CodeTest {
    public static void main(String[] args) {
        allOthersAreBad();
        badEndsABlockBeforeIt();
        cIsZeroForLogic();
        theBitThatGoesOut();
        zeroAndBitSeven();
        comparingLeavesD();
        rotatingPutsCIn();
        inReadsZeroWhenEmpty();
        whatHasNByteBehind();
        Check.finish();
    }

    private static boolean isBad(int code) {
        int w = code % 16;
        int s = code % 4;
        switch (code / 16) {
            case 0: return w > 4;
            case 12: return w > 6;
            case 13: return w > 1;
            case 14: return s > 1;
            case 15: return s > 0;
            default: return false;
        }
    }

    private static void allOthersAreBad() {
        int bad = 0;
        for (int code = 0; code < 256; code++) {
            BlockCache x = Check.with(code, 100);
            x.set(4, 200);
            Check.same("run at code " + code, x.run(1), isBad(code) ? 0 : 1);
            Check.counts("code " + code, x, 0, isBad(code) ? 0 : 1, 11, isBad(code) ? 2 : code == 0 ? 1 : 0);
            bad += x.count(11) == 2 ? 1 : 0;
            if (isBad(code)) {
                Check.same("PC stays at BAD " + code, x.get(9), 0);
                Check.counts("no block, nothing run at " + code, x, 1, 0, 3, 0, 6, 1, 7, 0);
            }
        }
        Check.same("so many codes are BAD", bad, 11 + 9 + 14 + 8 + 12);
    }

    private static void badEndsABlockBeforeIt() {
        for (int code = 0; code < 256; code++) {
            if (isBad(code)) {
                BlockCache x = Check.with(0x10, 0x10, code, 0);
                Check.same("before BAD " + code, x.run(100), 2);
                Check.same("PC at BAD " + code, x.get(9), 2);
                Check.counts("BAD " + code, x, 1, 1, 2, 3, 6, 2, 7, 0, 11, 2);
            }
        }
    }

    /** A and B, with all three flags set before; the flags as Z + 2 C + 4 N. */
    private static void flags(String what, int a, int b, int due, int... bytes) {
        for (int room : new int[] {1, 400}) {
            BlockCache x = Check.with(bytes);
            x.room(room);
            x.set(0, a);
            x.set(1, b);
            x.set(5, 1);
            x.set(6, 1);
            x.set(7, 1);
            x.run(2);
            Check.same(what + " room " + room, x.get(5) + 2 * x.get(6) + 4 * x.get(7), due);
        }
    }

    private static void cIsZeroForLogic() {
        flags("AND", 255, 1, 0, 0x61, 0);
        flags("XOR", 255, 254, 0, 0x71, 0);
        flags("XORI", 255, 0, 0, 0x93, 254, 0);
        flags("AND with bit 7", 255, 128, 4, 0x61, 0);
        flags("AND to 0", 240, 15, 1, 0x61, 0);
    }

    private static void theBitThatGoesOut() {
        flags("SHL 128", 128, 0, 1 + 2, 0x80, 0);
        flags("SHL 64", 64, 0, 4, 0x80, 0);
        flags("SHR 1", 1, 0, 1 + 2, 0x81, 0);
        flags("SHR 128", 128, 0, 0, 0x81, 0);
        flags("SHR 255", 255, 0, 2, 0x81, 0);
        flags("ROL 128 with C", 128, 0, 2, 0x82, 0);
        flags("ROL 64 with C", 64, 0, 4, 0x82, 0);
        flags("ROR 1 with C", 1, 0, 2 + 4, 0x83, 0);
        flags("ROR 0 with C", 0, 0, 4, 0x83, 0);
    }

    private static void zeroAndBitSeven() {
        flags("ADD to 256", 255, 1, 1 + 2, 0x21, 0);
        flags("ADD to 128", 127, 1, 4, 0x21, 0);
        flags("ADD to 127", 126, 1, 0, 0x21, 0);
        flags("ADD to 255", 254, 1, 4, 0x21, 0);
        flags("ADC to 256 by C", 255, 0, 1 + 2, 0x31, 0);
        flags("SUB to 0", 9, 9, 1, 0x41, 0);
        flags("SUB to -1", 9, 10, 2 + 4, 0x41, 0);
        flags("SUB to -255", 0, 255, 2, 0x41, 0);
        flags("CMP of the same", 200, 200, 1, 0x51, 0);
        flags("CMP with one more", 200, 201, 2 + 4, 0x51, 0);
        flags("CMP with one less", 200, 199, 0, 0x51, 0);
        flags("CMPI of the same", 200, 0, 1, 0x92, 200, 0);
        flags("CMPI with one more", 200, 0, 2 + 4, 0x92, 201, 0);
        flags("ADDI to 256", 255, 0, 1 + 2, 0x91, 1, 0);
    }

    private static void comparingLeavesD() {
        for (int room : new int[] {1, 400}) {
            BlockCache x = Check.with(0x51, 0x92, 77, 0x51, 0);
            x.room(room);
            x.set(0, 5);
            x.set(1, 6);
            x.run(4);
            Check.same("d stays, room " + room, x.get(0), 5);
            Check.same("s stays, room " + room, x.get(1), 6);
        }
    }

    private static void rotatingPutsCIn() {
        for (int c = 0; c <= 1; c++) {
            for (int room : new int[] {1, 400}) {
                BlockCache x = Check.with(0x82, 0x87, 0);
                x.room(room);
                x.set(0, 128);
                x.set(1, 0);
                x.set(6, c);
                x.run(3);
                Check.same("ROL 128 with C " + c, x.get(0), c);
                Check.same("ROR 0 with the bit that went out", x.get(1), 128);
            }
        }
    }

    private static void inReadsZeroWhenEmpty() {
        BlockCache x = Check.with(2, 1, 2, 1, 2, 1, 0);
        x.set(0, 99);
        x.input(7);
        x.run(7);
        Check.same("what was there", x.output(0), 7);
        Check.same("then 0", x.output(1), 0);
        Check.same("and 0 again", x.output(2), 0);
        Check.same("nothing is not read", x.input(1), 1);
    }

    private static void whatHasNByteBehind() {
        for (int code = 0; code < 256; code++) {
            int operation = code / 16;
            boolean goesElsewhere = operation >= 12 && operation != 14;
            if (!isBad(code) && !goesElsewhere) {
                BlockCache x = Check.with(code, 0x10, 0x10);
                x.set(4, 200);
                x.run(1);
                boolean two = operation >= 9 && operation <= 11;
                Check.same("PC behind code " + code, x.get(9), two ? 2 : 1);
            }
        }
    }
}
