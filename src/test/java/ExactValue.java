import java.math.BigDecimal;
import java.math.BigInteger;

/** The document's values by whole numbers alone, so that no float or double of the machine's judges itself. */
final class ExactValue {
    private static final int FLOAT_BITS = 24, DOUBLE_BITS = 53;
    private static final BigInteger THOUSAND = BigInteger.valueOf(1000);

    private ExactValue() {
    }

    static BigDecimal of(int n, boolean narrow) {
        BigInteger whole = BigInteger.valueOf(n);
        if (!narrow) {
            return nearest(whole, THOUSAND, DOUBLE_BITS);
        }
        return nearest(nearest(whole, BigInteger.ONE, FLOAT_BITS).toBigIntegerExact(), THOUSAND, FLOAT_BITS);
    }

    /** The greater one less the other one, rounded as the gauge does. */
    static BigDecimal apart(BigDecimal v, BigDecimal w, boolean narrow) {
        BigDecimal exact = v.subtract(w).abs();
        BigInteger denominator = BigInteger.TEN.pow(Math.max(exact.scale(), 0));
        BigInteger numerator = exact.multiply(new BigDecimal(denominator)).toBigIntegerExact();
        return nearest(numerator, denominator, narrow ? FLOAT_BITS : DOUBLE_BITS);
    }

    /** The number of so many bits that is nearest to a fraction, of two that are as near the even one. */
    private static BigDecimal nearest(BigInteger numerator, BigInteger denominator, int bits) {
        if (numerator.signum() == 0) {
            return BigDecimal.ZERO;
        }
        if (numerator.signum() < 0) {
            return nearest(numerator.negate(), denominator, bits).negate();
        }
        int shift = bits - numerator.bitLength() + denominator.bitLength();
        while (wholePart(numerator, denominator, shift).bitLength() > bits) {
            shift--;
        }
        BigInteger whole = wholePart(numerator, denominator, shift);
        BigInteger twiceRest = up(numerator, shift).subtract(whole.multiply(up(denominator, -shift))).shiftLeft(1);
        int half = twiceRest.compareTo(up(denominator, -shift));
        if (half > 0 || half == 0 && whole.testBit(0)) {
            whole = whole.add(BigInteger.ONE);
        }
        return shift >= 0
            ? new BigDecimal(whole).divide(new BigDecimal(BigInteger.ONE.shiftLeft(shift)))
            : new BigDecimal(whole.shiftLeft(-shift));
    }

    private static BigInteger wholePart(BigInteger numerator, BigInteger denominator, int shift) {
        return up(numerator, shift).divide(up(denominator, -shift));
    }

    private static BigInteger up(BigInteger number, int shift) {
        return shift > 0 ? number.shiftLeft(shift) : number;
    }
}
