/** The objects as the document lists them, for the tests alone. */
final class Dictionary {
    static final int R = 'r';
    static final int W = 'w';
    static final int B = 'b';
    static final int S = 's';
    static final int M = 'm';
    static final int LOW = Integer.MIN_VALUE;
    static final int HIGH = Integer.MAX_VALUE;

    /** index, sub, bytes, kind, START, least, greatest, in the order of the document. */
    static final int[][] OBJECTS = {
        {0x1001, 0, 1, R, 0, 0, 0}, {0x1010, 1, 4, W, 0, 0, 0}, {0x1011, 1, 4, W, 0, 0, 0},
        {0x1016, 1, 4, B, 0, 0, 8388607}, {0x1017, 0, 2, B, 0, 0, 65535},
        {0x1600, 0, 1, M, 1, 0, 3}, {0x1600, 1, 4, M, 0x60400010, LOW, HIGH}, {0x1600, 2, 4, M, 0, LOW, HIGH},
        {0x1600, 3, 4, M, 0, LOW, HIGH}, {0x1800, 2, 1, B, 255, 0, 255}, {0x1800, 3, 2, B, 0, 0, 65535},
        {0x1800, 5, 2, B, 0, 0, 65535},
        {0x1A00, 0, 1, M, 1, 0, 3}, {0x1A00, 1, 4, M, 0x60410010, LOW, HIGH}, {0x1A00, 2, 4, M, 0, LOW, HIGH},
        {0x1A00, 3, 4, M, 0, LOW, HIGH},
        {0x6040, 0, 2, B, 0, 0, 65535}, {0x6041, 0, 2, R, 0x40, 0, 0}, {0x6060, 0, 1, B, 1, 1, 3},
        {0x6064, 0, 4, R, 0, 0, 0}, {0x6065, 0, 4, S, 100000, 0, 100000}, {0x606B, 0, 4, R, 0, 0, 0},
        {0x607A, 0, 4, B, 0, -100000, 100000}, {0x607D, 1, 4, S, -100000, -100000, 100000},
        {0x607D, 2, 4, S, 100000, -100000, 100000}, {0x607F, 0, 4, S, 1000, 1, 1000},
        {0x6081, 0, 4, B, 100, 1, 1000}, {0x6083, 0, 4, S, 10, 1, 1000}, {0x6085, 0, 4, S, 50, 1, 1000},
        {0x60FF, 0, 4, B, 0, -1000, 1000},
    };

    private Dictionary() {
    }

    static int[] row(int index, int sub) {
        for (int[] o : OBJECTS) {
            if (o[0] == index && o[1] == sub) {
                return o;
            }
        }
        throw new IllegalArgumentException("no object " + index + ":" + sub);
    }

    static String name(int[] object) {
        return Integer.toHexString(object[0]) + ":" + object[1];
    }

    /** What a mapping entry must be for this object. */
    static int entry(int[] object) {
        return object[0] << 16 | object[1] << 8 | 8 * object[2];
    }
}
