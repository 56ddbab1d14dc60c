import java.math.BigInteger;

/** The BALLOTS that a SEED draws, by great numbers: no int wraps here but by MOD 2 to the 32. */
final class Draws {
    private static final BigInteger INTS = BigInteger.TWO.pow(32);

    private Draws() {
    }

    static int[] of(int seed, int ballots, int n) {
        int[] drawn = new int[n];
        BigInteger x = BigInteger.valueOf(seed).mod(INTS);
        for (int k = 0; k < n; k++) {
            x = x.multiply(BigInteger.valueOf(1103515245)).add(BigInteger.valueOf(12345)).mod(INTS);
            BigInteger bits = x.divide(BigInteger.TWO.pow(16)).mod(BigInteger.TWO.pow(15));
            drawn[k] = bits.mod(BigInteger.valueOf(ballots)).intValue();
        }
        return drawn;
    }
}
