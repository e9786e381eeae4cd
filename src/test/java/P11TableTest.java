import java.math.BigInteger;

/** Promises 11 to 14: table, rule, worst and capped, against a model and values by hand. */
public final class P11TableTest {
    private static int levels;
    private static int full;
    private static final int[] PRICES = new int[6];
    private static final int[][] CHANCES = new int[6][6];

    public static void main(String[] args) {
        Check check = new Check("promises 11 to 14");
        byHand(check);
        looksAtTheFirstFull(check);
        choosesTheFirst(check);
        leavesOutWhatDoesntCome(check);
        capsByWords(check);
        knowsItsStates(check);
        knowsItsCaps(check);
        keepsNothingOfTheLastCall(check);
        againstModel(check);
        staysExact(check);
        check.end();
    }

    private static void byHand(Check check) {
        check.about("promises 11 to 13: MEAN, RULE, GREATEST");
        CheapHours x = new CheapHours();
        x.levels(2);
        x.level(0, 20, 55);
        x.level(1, 60, 55);
        check.due("table(1, 1, 1)", x.table(1, 1, 1), 600);
        check.due("table(2, 1, 1)", x.table(2, 1, 1), 4000);
        check.due("rule(2, 1, 1)", x.rule(2, 1, 1), 0);
        check.due("table(2, 1, 0)", x.table(2, 1, 0), 2000);
        check.due("rule(2, 1, 0)", x.rule(2, 1, 0), 1);
        check.due("table(3, 1, 1): 30 in the mean", x.table(3, 1, 1), 30000);
        check.due("worst(3, 1, 1)", x.worst(3, 1, 1), 60);
        check.due("worst(3, 1, 0)", x.worst(3, 1, 0), 20);
        check.due("table(2, 2, 1): 60 and 40", x.table(2, 2, 1), 10000);
        check.due("worst(2, 2, 1)", x.worst(2, 2, 1), 120);
        check.due("table(12, 0, 1)", x.table(12, 0, 1), 0);
        check.due("rule(12, 0, 1)", x.rule(12, 0, 1), 0);
        check.due("worst(12, 0, 1)", x.worst(12, 0, 1), 0);
        check.due("capped(12, 0, 1, 5)", x.capped(12, 0, 1, 5), 0);
        check.due("table(0, 0, 1)", x.table(0, 0, 1), 0);
    }

    private static void looksAtTheFirstFull(Check check) {
        check.about("promises 11 to 14: FULL is 100 at first");
        CheapHours x = new CheapHours();
        x.levels(1);
        x.level(0, 999, 0);
        check.due("table at 100", x.table(1, 1, 0), 1000);
        check.due("rule at 100", x.rule(1, 1, 0), 2);
        check.due("worst at 100", x.worst(3, 3, 0), 300);
        check.due("capped at 100", x.capped(1, 1, 0, 998), 1000);
        check.due("capped at the PRICE", x.capped(1, 1, 0, 999), 9990);
    }

    private static void choosesTheFirst(Check check) {
        check.about("promise 12: the first of like ones");
        CheapHours x = new CheapHours();
        x.full(40);
        x.levels(1);
        x.level(0, 40, 0);
        check.due("wait before work of like mean", x.rule(2, 1, 0), 0);
        check.due("PRICE before FULL of like mean", x.rule(2, 2, 0), 1);
        x.level(0, 41, 0);
        check.due("FULL", x.rule(2, 2, 0), 2);
        check.due("wait before FULL of like mean", x.rule(2, 1, 0), 0);
        check.due("worst", x.worst(12, 12, 0), 480);
        check.due("table(1, 1, 0)", x.table(1, 1, 0), 400);
    }

    private static void leavesOutWhatDoesntCome(Check check) {
        check.about("promise 13: LEVELS with a chance of 0 come not");
        CheapHours x = new CheapHours();
        x.full(999);
        x.levels(3);
        x.level(0, 10, 10);
        x.level(1, 20, 110);
        x.level(2, 900, 100);
        check.due("from 0 LEVEL 2 is two hours off", x.worst(2, 2, 0), 30);
        check.due("three hours", x.worst(3, 3, 0), 930);
        check.due("from 1", x.worst(2, 2, 1), 920);
    }

    private static void capsByWords(Check check) {
        check.about("promise 14: The mean CAPPED by c");
        CheapHours x = new CheapHours();
        x.full(50);
        x.levels(2);
        x.level(0, 80, 10);
        x.level(1, 30, 10);
        check.due("at the PRICE, though FULL is less", x.capped(1, 1, 0, 80), 800);
        check.due("at the lesser one", x.capped(1, 1, 0, 79), 500);
        check.due("at the lesser one, the PRICE", x.capped(1, 1, 1, 29), 300);
        check.due("not above c", x.capped(2, 1, 1, 30), 3000);
        // waits; then at the last hour 50 of LEVEL 0 with 9 tenths, else 30
        check.due("above c", x.capped(2, 1, 1, 29), 4800);
        check.due("c of 0", x.capped(2, 1, 0, 0), 4800);
        check.due("c of 999", x.capped(2, 1, 0, 999), 8000);
    }

    /** The four calls of a state, by promise. */
    private static long ask(CheapHours x, int promise, int hours, int work, int one) {
        switch (promise) {
            case 11:
                return x.table(hours, work, one);
            case 12:
                return x.rule(hours, work, one);
            case 13:
                return x.worst(hours, work, one);
            default:
                return x.capped(hours, work, one, 15);
        }
    }

    private static void knowsItsStates(Check check) {
        for (int promise = 11; promise <= 14; promise++) {
            int asked = promise;
            check.about("promise " + promise + ": NONE if there is none such (hours)");
            Edges.argument(check, Desks::laidOut, (x, hours) -> ask(x, asked, hours, 0, 1), 0, 12);
            Edges.argument(check, Desks::laidOut, (x, hours) -> ask(x, asked, hours, 5, 1), 5, 12);
            Edges.argument(check, Desks::laidOut, (x, hours) -> ask(x, asked, hours, 12, 1), 12, 12);
            check.about("promise " + promise + ": NONE if there is none such (work)");
            for (int hours : new int[] {0, 1, 5, 11, 12}) {
                Edges.argument(check, Desks::laidOut, (x, work) -> ask(x, asked, hours, work, 1), 0, hours);
            }
            check.about("promise " + promise + ": NONE if there is none such (level)");
            Edges.argument(check, Desks::laidOut, (x, one) -> ask(x, asked, 5, 3, one), 0, 2);
            Edges.argument(check, Desks::laidOut, (x, one) -> ask(x, asked, 0, 0, one), 0, 2);
            knowsItsLevels(check, asked);
        }
    }

    private static void knowsItsLevels(Check check, int asked) {
        check.about("promise " + asked + ": NONE if there is none such (no LEVELS, or fewer than before)");
        for (int one = 0; one < 6; one++) {
            int level = one;
            Edges.refusedOn(check, "no LEVELS", CheapHours::new, x -> ask(x, asked, 5, 3, level));
        }
        for (int n = 1; n <= 6; n++) {
            CheapHours x = new CheapHours();
            x.levels(6);
            ask(x, asked, 5, 3, 5);
            x.levels(n);
            check.yes("the last of " + n, ask(x, asked, 5, 3, n - 1) != -1);
            check.none("one behind it", ask(x, asked, 5, 3, n));
        }
    }

    private static void knowsItsCaps(Check check) {
        check.about("promise 14: NONE for another c");
        Edges.argument(check, Desks::laidOut, (x, c) -> x.capped(5, 3, 1, c), 0, 999);
        Edges.argument(check, Desks::laidOut, (x, c) -> x.capped(0, 0, 1, c), 0, 999);
    }

    /** What was asked before, and in which order, is all the same. */
    private static void keepsNothingOfTheLastCall(Check check) {
        check.about("promises 11 to 14: as LEVELS are when it is asked");
        CheapHours x = new CheapHours();
        x.levels(2);
        x.level(1, 30, 10);
        check.due("capped by 30", x.capped(2, 1, 1, 30), 3000);
        check.due("capped by 29", x.capped(2, 1, 1, 29), 300);
        check.due("capped by 30 again", x.capped(2, 1, 1, 30), 3000);
        check.due("table", x.table(2, 2, 1), 3300);
        x.level(0, 5, 0);
        check.due("table of the new prices", x.table(2, 2, 1), 3750);
        check.due("capped of the new prices", x.capped(2, 2, 1, 30), 3750);
        check.due("worst of the new prices", x.worst(2, 1, 1), 30);
        x.level(1, 3, 0);
        check.due("rule of the new prices", x.rule(2, 1, 1), 1);
        x.levels(1);
        check.due("of new LEVELS", x.table(2, 2, 0), 0);
    }

    private static void againstModel(Check check) {
        check.about("promises 11 to 14: as a second way to the same answers says");
        Dice dice = new Dice(11);
        for (int run = 0; run < 60; run++) {
            CheapHours x = new CheapHours();
            full = dice.roll(1, 30);
            x.full(full);
            levels = dice.roll(1, 3);
            x.levels(levels);
            for (int i = 0; i < levels; i++) {
                throwLevel(dice, x, i);
            }
            for (int h = 0; h <= 5; h++) {
                for (int w = 0; w <= h; w++) {
                    state(check, x, h, w, dice.roll(0, levels - 1), dice.roll(0, 30));
                }
            }
        }
    }

    private static void throwLevel(Dice dice, CheapHours x, int one) {
        PRICES[one] = dice.roll(0, 30);
        int left = 10;
        int chances = 0;
        int place = 10;
        for (int next = 1; next < levels; next++) {
            int chance = Math.min(9, dice.roll(0, left));
            CHANCES[one][next] = chance;
            chances += chance * place;
            place *= 10;
            left -= chance;
        }
        CHANCES[one][0] = left;
        x.level(one, PRICES[one], chances);
    }

    private static void state(Check check, CheapHours x, int h, int w, int one, int c) {
        String state = "(" + h + ", " + w + ", " + one + ")";
        check.due("table" + state, x.table(h, w, one), mean(h, w, one)[0]);
        check.due("rule" + state, x.rule(h, w, one), mean(h, w, one)[1]);
        check.due("worst" + state, x.worst(h, w, one), greatest(h, w, one));
        check.due("capped" + state + " by " + c, x.capped(h, w, one, c), capped(h, w, one, c));
    }

    /** The least mean, and the rule. */
    private static long[] mean(int h, int w, int one) {
        if (w == 0) {
            return new long[] {0, 0};
        }
        long[] costs = {Long.MAX_VALUE, PRICES[one] * tens(h), full * tens(h)};
        for (int next = 0; next < levels; next++) {
            long behind = CHANCES[one][next] * mean(h - 1, w - 1, next)[0];
            costs[1] += behind;
            costs[2] += behind;
        }
        if (w < h) {
            costs[0] = 0;
            for (int next = 0; next < levels; next++) {
                costs[0] += CHANCES[one][next] * mean(h - 1, w, next)[0];
            }
        }
        int by = 0;
        for (int i = 1; i < 3; i++) {
            by = costs[i] < costs[by] ? i : by;
        }
        return new long[] {costs[by], by};
    }

    private static long greatest(int h, int w, int one) {
        if (w == 0) {
            return 0;
        }
        int by = (int) mean(h, w, one)[1];
        long most = 0;
        for (int next = 0; next < levels; next++) {
            if (CHANCES[one][next] != 0) {
                most = Math.max(most, greatest(h - 1, by == 0 ? w : w - 1, next));
            }
        }
        return most + (by == 0 ? 0 : by == 1 ? PRICES[one] : full);
    }

    private static long capped(int h, int w, int one, int c) {
        if (w == 0) {
            return 0;
        }
        boolean waits = PRICES[one] > c && w < h;
        long pays = waits ? 0 : PRICES[one] <= c ? PRICES[one] : Math.min(PRICES[one], full);
        long sum = pays * tens(h);
        for (int next = 0; next < levels; next++) {
            sum += CHANCES[one][next] * capped(h - 1, waits ? w : w - 1, next, c);
        }
        return sum;
    }

    private static long tens(int h) {
        return BigInteger.TEN.pow(h).longValueExact();
    }

    private static void staysExact(Check check) {
        check.about("promises 11, 13 and 14: the greatest there can be");
        CheapHours x = new CheapHours();
        x.full(999);
        x.levels(6);
        for (int i = 0; i < 6; i++) {
            x.level(i, 999, 111111);
        }
        check.due("the dearest state", x.table(12, 12, 5), 11988000000000000L);
        check.due("the dearest by a cap", x.capped(12, 12, 5, 999), 11988000000000000L);
        check.due("the greatest", x.worst(12, 12, 5), 11988);
    }
}
