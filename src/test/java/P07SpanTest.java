import java.math.BigInteger;

/** Promises 7 and 8: span and mean, against exact fractions and values by hand. */
public final class P07SpanTest {
    public static void main(String[] args) {
        Check check = new Check("promises 7 and 8");
        byHand(check);
        againstFractions(check);
        refuses(check);
        check.end();
    }

    private static void byHand(Check check) {
        CheapHours x = new CheapHours();
        check.due("span(10, 2, 10)", x.span(10, 2, 10), 5);
        check.due("span(10, 1, 10)", x.span(10, 1, 10), 4);
        // 4 = 2 * (2^1 - 1) * 2, and one try of two hours takes 6
        check.due("mean(2, 0, 2, 1, 0)", x.mean(2, 0, 2, 1, 0), 4);
        check.due("mean(2, 0, 2, 2, 0)", x.mean(2, 0, 2, 2, 0), 6);
        // 3 * (9 - 4) / 4 and 3 * 1 / 2
        check.due("mean(3, 0, 3, 2, 0)", x.mean(3, 0, 3, 2, 0), 21);
        check.due("mean(3, 0, 3, 2, 1)", x.mean(3, 0, 3, 2, 1), 4);
        // 2 * 3 * 1 / 2 is in lowest terms 3 / 1
        check.due("mean(2, 0, 3, 1, 0)", x.mean(2, 0, 3, 1, 0), 3);
        check.due("mean(2, 0, 3, 1, 1)", x.mean(2, 0, 3, 1, 1), 1);
    }

    private static void againstFractions(Check check) {
        CheapHours x = new CheapHours();
        for (int work = 1; work <= 10; work++) {
            for (int save = 0; save <= 2; save++) {
                for (int q = 2; q <= 10; q++) {
                    spans(check, x, work, save, q);
                }
            }
        }
    }

    private static void spans(Check check, CheapHours x, int work, int save, int q) {
        int best = 0;
        BigInteger[] least = null;
        for (int span = 1; span <= work; span++) {
            BigInteger[] mean = {BigInteger.ZERO, BigInteger.ONE};
            for (int done = 0; done < work; done += span) {
                mean = plus(mean, attempt(Math.min(span, work - done) + save, q));
            }
            String call = "mean(" + work + ", " + save + ", " + q + ", " + span + ")";
            check.due(call + " above", x.mean(work, save, q, span, 0), mean[0].longValueExact());
            check.due(call + " below", x.mean(work, save, q, span, 1), mean[1].longValueExact());
            if (least == null || mean[0].multiply(least[1]).compareTo(least[0].multiply(mean[1])) < 0) {
                least = mean;
                best = span;
            }
        }
        check.due("span(" + work + ", " + save + ", " + q + ")", x.span(work, save, q), best);
    }

    /** Built hour by hour: with m hours behind the next one it takes (m + 1) * q / (q - 1). */
    private static BigInteger[] attempt(int hours, int q) {
        BigInteger[] mean = {BigInteger.ZERO, BigInteger.ONE};
        for (int i = 0; i < hours; i++) {
            BigInteger[] more = plus(mean, new BigInteger[] {BigInteger.ONE, BigInteger.ONE});
            mean = lowest(more[0].multiply(BigInteger.valueOf(q)),
                    more[1].multiply(BigInteger.valueOf(q - 1)));
        }
        return mean;
    }

    private static BigInteger[] plus(BigInteger[] a, BigInteger[] b) {
        return lowest(a[0].multiply(b[1]).add(b[0].multiply(a[1])), a[1].multiply(b[1]));
    }

    private static BigInteger[] lowest(BigInteger above, BigInteger below) {
        BigInteger common = above.gcd(below);
        return new BigInteger[] {above.divide(common), below.divide(common)};
    }

    private static void refuses(Check check) {
        CheapHours x = new CheapHours();
        int[][] wrong = {{0, 1, 5}, {11, 1, 5}, {-1, 1, 5}, {5, -1, 5}, {5, 3, 5}, {5, 1, 1},
            {5, 1, 11}, {5, 1, 0}, {5, 1, -7}, {Integer.MAX_VALUE, 1, 5}, {5, 1, Integer.MIN_VALUE}};
        for (int[] w : wrong) {
            check.none("span", x.span(w[0], w[1], w[2]));
            check.none("mean above", x.mean(w[0], w[1], w[2], 1, 0));
            check.none("mean below", x.mean(w[0], w[1], w[2], 1, 1));
        }
        check.none("SPAN 0", x.mean(5, 1, 5, 0, 0));
        check.none("SPAN above WORK", x.mean(5, 1, 5, 6, 0));
        check.none("what -1", x.mean(5, 1, 5, 5, -1));
        check.none("what 2", x.mean(5, 1, 5, 5, 2));
    }
}
