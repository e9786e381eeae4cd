/** What is refused changes nothing; and no call throws, whatever it is given. */
public final class RefusedTest {
    private static final int[] ODD = {Integer.MIN_VALUE, -1000000, -2, -1, 0, 1, 2, 3, 5, 6, 7, 10, 11,
        12, 13, 60, 61, 199, 200, 201, 999, 1000, 5010012, 30200255, 1000000000, Integer.MAX_VALUE};

    public static void main(String[] args) {
        Check check = new Check("what is refused");
        changesNothing(check);
        neverThrows(check);
        check.end();
    }

    private static void changesNothing(Check check) {
        Dice dice = new Dice(3);
        for (int run = 0; run < 40; run++) {
            CheapHours x = busy(dice);
            String before = snapshot(x);
            for (int i = 0; i < 40; i++) {
                if (isRefused(x, dice)) {
                    check.yes("refused, and as before", before.equals(snapshot(x)));
                } else {
                    before = snapshot(x);
                }
            }
        }
    }

    private static CheapHours busy(Dice dice) {
        CheapHours x = new CheapHours();
        x.full(40);
        Markets.throwPrices(dice, x, 100);
        x.levels(3);
        x.level(0, 10, 234);
        x.level(1, 20, 35);
        x.level(2, 60, 109);
        x.job(12080021, 8, 4);
        x.job(7050112, 6, 3);
        x.job(20090205, 9, 5);
        x.go(dice.roll(1, 60));
        return x;
    }

    private static boolean isRefused(CheapHours x, Dice dice) {
        int a = odd(dice);
        int b = odd(dice);
        int c = odd(dice);
        switch (dice.roll(0, 5)) {
            case 0:
                return !x.price(a, b, c, odd(dice));
            case 1:
                return !x.full(a);
            case 2:
                return x.job(a, b, c) == -1;
            case 3:
                return x.go(a) == -1;
            case 4:
                return !x.levels(a);
            default:
                return !x.level(a, b, c);
        }
    }

    private static int odd(Dice dice) {
        return ODD[dice.roll(0, ODD.length - 1)];
    }

    private static String snapshot(CheapHours x) {
        StringBuilder all = new StringBuilder();
        for (int what = 0; what < 6; what++) {
            all.append(x.count(what)).append(' ');
        }
        for (int job = 0; job < 12; job++) {
            all.append(x.oracle(job)).append(' ');
            for (int what = 0; what <= 12; what++) {
                all.append(x.told(job, what)).append(' ');
            }
        }
        for (int i = 0; i < 6; i++) {
            for (int w = 0; w <= 6; w++) {
                all.append(x.table(6, w, i)).append(' ').append(x.rule(6, w, i)).append(' ');
                all.append(x.worst(6, w, i)).append(' ').append(x.capped(6, w, i, 30)).append(' ');
            }
        }
        return all.toString();
    }

    private static void neverThrows(Check check) {
        Dice dice = new Dice(4);
        for (int run = 0; run < 300; run++) {
            CheapHours x = dice.oneIn(3) ? new CheapHours() : busy(dice);
            for (int i = 0; i < 512; i++) {
                try {
                    anyCall(x, dice);
                } catch (Throwable t) {
                    check.fault("a call threw " + t);
                }
            }
            check.yes("NOW is one", x.count(0) >= 0 && x.count(0) <= 200);
        }
    }

    private static void anyCall(CheapHours x, Dice dice) {
        if (dice.oneIn(3)) {
            isRefused(x, dice);
            return;
        }
        int a = odd(dice);
        int b = odd(dice);
        int c = odd(dice);
        switch (dice.roll(0, 8)) {
            case 0 -> x.told(a, b);
            case 1 -> x.span(a, b, c);
            case 2 -> x.mean(a, b, c, odd(dice), odd(dice));
            case 3 -> x.table(a, b, c);
            case 4 -> x.rule(a, b, c);
            case 5 -> x.worst(a, b, c);
            case 6 -> x.capped(a, b, c, odd(dice));
            case 7 -> x.oracle(a);
            default -> x.count(a);
        }
    }
}
