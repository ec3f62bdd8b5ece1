import java.math.BigInteger;

/** The BEAT of two inks of the second reading; FAR is upper by lower, not in lowest terms. */
final class SecondBeat {
    int x;
    int y;
    int wave;
    int otherWave;
    boolean isAlike;
    BigInteger upper;
    BigInteger lower;

    SecondBeat(SecondInk one, SecondInk other) {
        int n = one.signedCell();
        int otherN = other.signedCell();
        int[][] waves = {{one.d, -one.c}, {-one.b, one.a}, {-one.d, one.c}, {one.b, -one.a}};
        int[][] others = {{other.d, -other.c}, {-other.b, other.a}, {-other.d, other.c}, {other.b, -other.a}};
        long shortest = Long.MAX_VALUE;
        for (int k = 0; k < 16; k++) {
            int px = otherN * waves[k / 4][0] - n * others[k % 4][0];
            int py = otherN * waves[k / 4][1] - n * others[k % 4][1];
            long length = (long) px * px + (long) py * py;
            isAlike |= length == 0;
            if (length != 0 && length < shortest) {
                shortest = length;
                x = px;
                y = py;
                wave = k / 4;
                otherWave = k % 4;
            }
        }
        upper = BigInteger.valueOf(n).multiply(BigInteger.valueOf(otherN)).pow(2);
        lower = BigInteger.valueOf(shortest);
    }

    boolean isFarther(SecondBeat than) {
        return upper.multiply(than.lower).compareTo(than.upper.multiply(lower)) > 0;
    }
}
