/** Terms: "Numbers are taken modulo 256." Each wrap-around, interpreted (room 1) and in a block (room 400). */
public final class Terms01ModuloTest {
    public static void main(String[] args) {
        for (int room : new int[] {1, 400}) {
            registersGoRound(room);
            countingDownGoesRound(room);
            theStackGoesRound(room);
            addressesGoRound(room);
            pcGoesRound(room);
            thePlaceBehindACallGoesRound(room);
            anInterruptsPushGoesRound(room);
        }
        howItWasRun();
        Check.finish();
    }

    /** These bytes from a place on, with PC there. */
    private static BlockCache at(int room, int place, int... bytes) {
        BlockCache x = new BlockCache();
        Check.load(x, place, bytes);
        x.room(room);
        x.set(9, place);
        return x;
    }

    /** The room decides how what is tested here is run. */
    private static void howItWasRun() {
        BlockCache alone = at(1, 0, 0x21, 0);
        alone.run(2);
        Check.counts("room 1", alone, 0, 2, 7, 1);
        BlockCache block = at(400, 0, 0x21, 0);
        block.run(2);
        Check.counts("room 400", block, 0, 2, 7, 0);
    }

    /** d with 255 or 0, and the other one with 1, 255 or C. */
    private static void registersGoRound(int room) {
        for (int d = 0; d < 4; d++) {
            int s = (d + 1) % 4;
            due(room, "ADD 255 + 1", 0x20 | d << 2 | s, d, 255, s, 1, 0, 0, 1);
            due(room, "ADD 255 + 255", 0x20 | d << 2 | s, d, 255, s, 255, 0, 254, 1);
            due(room, "ADD 255 + 0", 0x20 | d << 2 | s, d, 255, s, 0, 1, 255, 0);
            due(room, "ADC 255 + 0 + 1", 0x30 | d << 2 | s, d, 255, s, 0, 1, 0, 1);
            due(room, "ADC 255 + 255 + 1", 0x30 | d << 2 | s, d, 255, s, 255, 1, 255, 1);
            due(room, "ADC 254 + 0 + 1", 0x30 | d << 2 | s, d, 254, s, 0, 1, 255, 0);
            due(room, "SUB 0 - 1", 0x40 | d << 2 | s, d, 0, s, 1, 0, 255, 1);
            due(room, "SUB 0 - 255", 0x40 | d << 2 | s, d, 0, s, 255, 0, 1, 1);
            due(room, "SUB 1 - 1", 0x40 | d << 2 | s, d, 1, s, 1, 1, 0, 0);
            due(room, "CMP 0 - 1", 0x50 | d << 2 | s, d, 0, s, 1, 0, 0, 1);
            due(room, "SHL 255", 0x80 | d << 2, d, 255, s, 9, 1, 254, 1);
            due(room, "SHL 127", 0x80 | d << 2, d, 127, s, 9, 1, 254, 0);
            due(room, "ROL 255", 0x82 | d << 2, d, 255, s, 9, 1, 255, 1);
            due(room, "ROR 1", 0x83 | d << 2, d, 1, s, 9, 1, 128, 1);
            due(room, "SHR 1", 0x81 | d << 2, d, 1, s, 9, 0, 0, 1);
        }
        BlockCache x = at(room, 0, 0x91, 255, 0);
        x.set(0, 255);
        x.run(2);
        Check.same("ADDI 255 + 255", x.get(0), 254);
    }

    private static void due(int room, String what, int code, int d, int left, int s, int right, int carry,
            int result, int carryAfter) {
        BlockCache x = at(room, 0, code, 0);
        x.set(d, left);
        x.set(s, right);
        x.set(6, carry);
        x.run(2);
        Check.same(what + " of " + d, x.get(d), result);
        Check.same(what + " of " + d + ": the other one", x.get(s), right);
        Check.same(what + " of " + d + ": C", x.get(6), carryAfter);
    }

    private static void countingDownGoesRound(int room) {
        BlockCache x = at(room, 0, 0xF8, 100);
        x.run(1);
        Check.same("DJNZ from 0", x.get(2), 255);
        Check.same("255 is not 0", x.get(9), 100);
    }

    private static void theStackGoesRound(int room) {
        BlockCache push = at(room, 10, 0xE4, 0);
        push.set(1, 77);
        push.run(2);
        Check.same("PUSH at SP 0: SP", push.get(4), 255);
        Check.same("PUSH at SP 0: the byte", push.peek(255), 77);
        BlockCache pop = at(room, 10, 0xE5, 0);
        pop.poke(255, 0x4D000000, 1);
        pop.set(4, 255);
        pop.run(2);
        Check.same("POP at SP 255: SP", pop.get(4), 0);
        Check.same("POP at SP 255: the byte", pop.get(1), 77);
        BlockCache call = at(room, 10, 0xD0, 100);
        call.run(1);
        Check.same("CALL at SP 0: SP", call.get(4), 255);
        Check.same("CALL at SP 0: the byte", call.peek(255), 12);
        BlockCache ret = at(room, 10, 0xD1);
        ret.poke(255, 0x4D000000, 1);
        ret.set(4, 255);
        ret.run(1);
        Check.same("RET at SP 255: SP", ret.get(4), 0);
        Check.same("RET at SP 255: PC", ret.get(9), 77);
    }

    private static void addressesGoRound(int room) {
        int[][] sums = {{255, 1}, {1, 255}, {255, 255}, {200, 55}, {0, 255}, {255, 0}, {128, 128}};
        for (int[] sum : sums) {
            int place = (sum[0] + sum[1]) % 256;
            BlockCache load = at(room, 100, 0xA6, sum[1], 0);
            load.poke(place, 0x5A000000, 1);
            load.set(2, sum[0]);
            load.run(2);
            Check.same("LD at " + sum[0] + " + " + sum[1], load.get(1), 0x5A);
            BlockCache store = at(room, 100, 0xB6, sum[1], 0);
            store.set(1, 0x5A);
            store.set(2, sum[0]);
            store.run(2);
            Check.same("ST at " + sum[0] + " + " + sum[1], store.peek(place), 0x5A);
        }
    }

    private static void pcGoesRound(int room) {
        int[] oneByte = {0x01, 0x02, 0x04, 0x11, 0x21, 0x31, 0x41, 0x51, 0x61, 0x71, 0x80, 0x81, 0x82, 0x83,
            0xE0, 0xE1};
        for (int code : oneByte) {
            BlockCache x = at(room, 255, code, 0);
            x.set(4, 128);
            Check.same("run " + code, x.run(2), 2);
            Check.same("one byte at 255, code " + code, x.get(9), 1);
        }
        int[] twoBytes = {0x90, 0x91, 0x92, 0x93, 0xA0, 0xB0};
        for (int code : twoBytes) {
            BlockCache x = at(room, 254, code, 100, 0);
            Check.same("run " + code, x.run(2), 2);
            Check.same("two bytes at 254, code " + code, x.get(9), 1);
            BlockCache y = at(room, 255, code, 100, 0);
            Check.same("run " + code, y.run(2), 2);
            Check.same("two bytes at 255, code " + code, y.get(9), 2);
        }
        BlockCache n = at(room, 255, 0x90, 100, 0);
        n.run(2);
        Check.same("n of LDI at 255 is at 0", n.get(0), 100);
        stopAndJumpsAtTheEnd(room);
    }

    private static void stopAndJumpsAtTheEnd(int room) {
        BlockCache stop = at(room, 255, 0);
        stop.run(1);
        Check.same("STOP at 255", stop.get(9), 0);
        BlockCache ei = at(room, 255, 3);
        ei.run(1);
        Check.same("EI at 255", ei.get(9), 0);
        for (int place = 254; place <= 255; place++) {
            BlockCache taken = at(room, place, 0xC2, 100);
            taken.run(1);
            Check.same("JMP taken at " + place, taken.get(9), 100);
            BlockCache not = at(room, place, 0xC1, 100);
            not.run(1);
            Check.same("JMP not taken at " + place, not.get(9), place - 254);
            BlockCache down = at(room, place, 0xF0, 100);
            down.set(0, 1);
            down.run(1);
            Check.same("DJNZ not taken at " + place, down.get(9), place - 254);
        }
    }

    private static void thePlaceBehindACallGoesRound(int room) {
        for (int place = 253; place <= 255; place++) {
            BlockCache x = at(room, place, 0xD0, 100);
            x.set(4, 50);
            x.run(1);
            Check.same("behind CALL at " + place, x.peek(49), (place + 2) % 256);
        }
    }

    private static void anInterruptsPushGoesRound(int room) {
        BlockCache x = at(room, 255, 0x10);
        x.set(8, 1);
        x.request(0);
        x.run(1);
        Check.same("INTERRUPT at SP 0: SP", x.get(4), 255);
        Check.same("INTERRUPT at SP 0: PC, over the code there", x.peek(255), 255);
    }
}
