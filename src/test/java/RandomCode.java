import java.util.Random;

/** Guest code from a seed, for tests that run much of it. */
final class RandomCode {
    static final int STYLES = 6;

    private RandomCode() {
    }

    /** Four bytes of code, as poke takes them. */
    static int four(Random random, int style) {
        int number = 0;
        for (int i = 0; i < 4; i++) {
            number = number << 8 | next(random, style);
        }
        return number;
    }

    /** A byte of code: by style more arithmetic, more jumps, more writes, or anything. */
    private static int next(Random random, int style) {
        int low = random.nextInt(16);
        int kind = random.nextInt(100);
        switch (style) {
            case 0:
                return random.nextInt(256);
            case 1:
                return kind < 60 ? (2 + random.nextInt(7)) << 4 | low : kind < 75 ? 0x90 | low : kind < 90
                    ? 0xC0 | random.nextInt(7) : 0x10 | low;
            case 2:
                return kind < 30 ? 0xC0 | random.nextInt(7) : kind < 45 ? 0xF0 | low & 12 : kind < 55
                    ? 0xD0 | random.nextInt(2) : kind < 90 ? (1 + random.nextInt(9)) << 4 | low : 3;
            case 3:
                return kind < 20 ? 0xB0 | low : kind < 35 ? 0xE0 | low & 13 : kind < 40 ? 0xD0 : kind < 60
                    ? 0xC0 | random.nextInt(7) : (1 + random.nextInt(8)) << 4 | low;
            case 4:
                return kind < 8 ? 1 + random.nextInt(4) : kind < 12 ? 0xB0 | low : kind < 16 ? 0xE0 | low & 13
                    : kind < 30 ? 0xC0 | random.nextInt(7) : kind < 40 ? 0xF0 | low & 12
                    : (1 + random.nextInt(10)) << 4 | low;
            default:
                return kind < 50 ? 0x10 | low : kind < 70 ? 0x90 | low : kind < 72 ? 3 : kind < 90
                    ? 0xC0 | random.nextInt(7) : random.nextInt(256);
        }
    }
}
