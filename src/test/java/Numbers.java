import java.math.BigInteger;

/** Numbers as the document tells them, modulo 100, one behind another. */
final class Numbers {
    private static final BigInteger TIMES = BigInteger.valueOf(1103515245L);
    private static final BigInteger MORE = BigInteger.valueOf(12345L);

    private BigInteger last;

    Numbers(long seed) {
        last = BigInteger.valueOf(seed);
    }

    int next() {
        last = last.multiply(TIMES).add(MORE).mod(BigInteger.ONE.shiftLeft(31));
        return last.shiftRight(16).intValue() % 100;
    }
}
