import java.math.BigInteger;

/** LOT, with numbers that have no end, brought back to 32 bits wherever the document's wrap. */
final class Lots {
    private static final BigInteger WRAP = BigInteger.ONE.shiftLeft(32);

    private Lots() { }

    static int lot(int n, int seed, int which) {
        BigInteger h = BigInteger.valueOf(seed).mod(WRAP);
        for (int it : new int[] {175, which}) {
            h = h.xor(BigInteger.valueOf(it).mod(WRAP)).multiply(BigInteger.valueOf(1103515245)).add(BigInteger.valueOf(12345)).mod(WRAP);
            h = h.xor(h.shiftRight(15));
        }
        return h.shiftRight(1).mod(BigInteger.valueOf(n)).intValue();
    }

    static boolean isLess(int n, int seed, int which, int draught) {
        return lot(n, seed, which) < draught;
    }
}
