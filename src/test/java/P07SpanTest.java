import java.math.BigInteger;

/** Promises 7 and 8: span and mean, against exact fractions and values by hand. */
public final class P07SpanTest {
    public static void main(String[] args) {
        Check check = new Check("promises 7 and 8");
        byHand(check);
        againstFractions(check);
        spanKnowsItsArguments(check);
        meanKnowsItsArguments(check);
        meanKnowsItsSpan(check);
        meanKnowsItsWhat(check);
        check.end();
    }

    private static void byHand(Check check) {
        check.about("promise 8: The mean HOURS with a SPAN, in lowest terms");
        CheapHours x = new CheapHours();
        // 4 = 2 * (2^1 - 1) * 2, and one try of two hours takes 6
        check.due("mean(2, 0, 2, 1, 0)", x.mean(2, 0, 2, 1, 0), 4);
        check.due("mean(2, 0, 2, 2, 0)", x.mean(2, 0, 2, 2, 0), 6);
        // 3 * (9 - 4) / 4 and 3 * 1 / 2
        check.due("mean(3, 0, 3, 2, 0)", x.mean(3, 0, 3, 2, 0), 21);
        check.due("mean(3, 0, 3, 2, 1)", x.mean(3, 0, 3, 2, 1), 4);
        // 2 * 3 * 1 / 2 is in lowest terms 3 / 1
        check.due("mean(2, 0, 3, 1, 0)", x.mean(2, 0, 3, 1, 0), 3);
        check.due("mean(2, 0, 3, 1, 1)", x.mean(2, 0, 3, 1, 1), 1);
    }

    private static void againstFractions(Check check) {
        check.about("promises 7 and 8: BEST SPAN, and the mean, for all that can be");
        for (int work = 1; work <= 10; work++) {
            for (int save = 0; save <= 2; save++) {
                for (int q = 2; q <= 10; q++) {
                    spans(check, new CheapHours(), work, save, q);
                }
            }
        }
    }

    private static void spans(Check check, CheapHours x, int work, int save, int q) {
        int best = 0;
        BigInteger[] least = null;
        for (int span = 1; span <= work; span++) {
            BigInteger[] mean = {BigInteger.ZERO, BigInteger.ONE};
            for (int done = 0; done < work; done += span) {
                mean = plus(mean, attempt(Math.min(span, work - done) + save, q));
            }
            String call = "mean(" + work + ", " + save + ", " + q + ", " + span + ")";
            check.due(call + " above", x.mean(work, save, q, span, 0), mean[0].longValueExact());
            check.due(call + " below", x.mean(work, save, q, span, 1), mean[1].longValueExact());
            if (least == null || mean[0].multiply(least[1]).compareTo(least[0].multiply(mean[1])) < 0) {
                least = mean;
                best = span;
            }
        }
        check.due("span(" + work + ", " + save + ", " + q + ")", x.span(work, save, q), best);
    }

    /** Built hour by hour: with m hours behind the next one it takes (m + 1) * q / (q - 1). */
    private static BigInteger[] attempt(int hours, int q) {
        BigInteger[] mean = {BigInteger.ZERO, BigInteger.ONE};
        for (int i = 0; i < hours; i++) {
            BigInteger[] more = plus(mean, new BigInteger[] {BigInteger.ONE, BigInteger.ONE});
            mean = lowest(more[0].multiply(BigInteger.valueOf(q)),
                    more[1].multiply(BigInteger.valueOf(q - 1)));
        }
        return mean;
    }

    private static BigInteger[] plus(BigInteger[] a, BigInteger[] b) {
        return lowest(a[0].multiply(b[1]).add(b[0].multiply(a[1])), a[1].multiply(b[1]));
    }

    private static BigInteger[] lowest(BigInteger above, BigInteger below) {
        BigInteger common = above.gcd(below);
        return new BigInteger[] {above.divide(common), below.divide(common)};
    }

    private static void spanKnowsItsArguments(Check check) {
        check.about("promise 7: NONE if WORK can't be");
        Edges.argument(check, CheapHours::new, (x, work) -> x.span(work, 1, 5), 1, 10);
        check.about("promise 7: NONE if SAVE can't be");
        Edges.argument(check, CheapHours::new, (x, save) -> x.span(5, save, 5), 0, 2);
        check.about("promise 7: NONE if q can't be");
        Edges.argument(check, CheapHours::new, (x, q) -> x.span(5, 1, q), 2, 10);
    }

    private static void meanKnowsItsArguments(Check check) {
        for (int what = 0; what <= 1; what++) {
            int line = what;
            check.about("promise 8, what " + what + ": NONE likewise (WORK)");
            Edges.argument(check, CheapHours::new, (x, work) -> x.mean(work, 1, 5, 1, line), 1, 10);
            check.about("promise 8, what " + what + ": NONE likewise (SAVE)");
            Edges.argument(check, CheapHours::new, (x, save) -> x.mean(5, save, 5, 1, line), 0, 2);
            check.about("promise 8, what " + what + ": NONE likewise (q)");
            Edges.argument(check, CheapHours::new, (x, q) -> x.mean(5, 1, q, 1, line), 2, 10);
        }
    }

    private static void meanKnowsItsSpan(Check check) {
        for (int work : new int[] {1, 2, 9, 10}) {
            check.about("promise 8, WORK " + work + ": NONE for another SPAN");
            Edges.argument(check, CheapHours::new, (x, span) -> x.mean(work, 1, 5, span, 0), 1, work);
            Edges.argument(check, CheapHours::new, (x, span) -> x.mean(work, 1, 5, span, 1), 1, work);
        }
    }

    private static void meanKnowsItsWhat(Check check) {
        check.about("promise 8: NONE for another what");
        Edges.argument(check, CheapHours::new, (x, what) -> x.mean(5, 1, 5, 5, what), 0, 1);
    }
}
