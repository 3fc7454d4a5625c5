/** The flags that the document asks for, worked out by whole numbers; for the tests. */
final class Flags {
    static final int N = 8;
    static final int Z = 4;
    static final int V = 2;
    static final int C = 1;

    private Flags() {
    }

    static int signOf(int result, int bits) {
        return (result == 0 ? Z : 0) | (result >> bits - 1 == 1 ? N : 0);
    }

    static int ofSum(int x, int y, int c, int bits) {
        int whole = x + y + c;
        boolean fits = fitsSigned(signed(x, bits) + signed(y, bits) + c, bits);
        return signOf(whole & (1 << bits) - 1, bits) | (whole >> bits != 0 ? C : 0)
                | (fits ? 0 : V);
    }

    static int ofDifference(int x, int y, int c, int bits) {
        boolean fits = fitsSigned(signed(x, bits) - signed(y, bits) - c, bits);
        return signOf(x - y - c & (1 << bits) - 1, bits) | (y + c > x ? C : 0) | (fits ? 0 : V);
    }

    private static int signed(int value, int bits) {
        return value >= 1 << bits - 1 ? value - (1 << bits) : value;
    }

    private static boolean fitsSigned(int value, int bits) {
        return value >= -(1 << bits - 1) && value < 1 << bits - 1;
    }
}
