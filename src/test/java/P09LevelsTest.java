/** Promises 9 and 10: levels and level. */
public final class P09LevelsTest {
    public static void main(String[] args) {
        Check check = new Check("promises 9 and 10");
        countsLevels(check);
        startsAnew(check);
        readsDigits(check);
        refuses(check);
        check.end();
    }

    private static void countsLevels(Check check) {
        CheapHours x = new CheapHours();
        check.no("levels(0)", x.levels(0));
        check.no("levels(7)", x.levels(7));
        check.no("levels(-1)", x.levels(-1));
        check.due("count(4)", x.count(4), 0);
        for (int n = 6; n >= 1; n--) {
            check.yes("levels", x.levels(n));
            check.due("count(4)", x.count(4), n);
            check.due("the last one", x.table(1, 1, n - 1), 0);
            check.none("behind the last one", x.table(1, 1, n));
        }
    }

    private static void startsAnew(Check check) {
        CheapHours x = new CheapHours();
        x.levels(2);
        x.level(0, 70, 50);
        x.level(1, 90, 90);
        check.due("before", x.table(1, 1, 1), 900);
        x.levels(3);
        for (int i = 0; i < 3; i++) {
            check.due("PRICE 0", x.table(12, 12, i), 0);
            check.due("worst", x.worst(12, 12, i), 0);
        }
        x.level(0, 5, 0);
        x.level(2, 80, 0);
        check.due("each goes to LEVEL 0", x.table(2, 2, 1), 500);
        check.due("so does the last one", x.table(2, 2, 2), 8500);
        check.no("refused", x.levels(9));
        check.due("the levels stay", x.table(2, 2, 2), 8500);
        x.levels(3);
        check.due("as many again are new", x.table(2, 2, 2), 0);
    }

    /** With one hour to go, the mean behind a level is the sum of its chances times prices. */
    private static void readsDigits(Check check) {
        int[] prices = {1, 2, 4, 8, 16, 32};
        for (int[] run : new int[][] {{0, 10, 0, 0, 0, 0, 0}, {123, 7, 2, 1, 0, 0, 0},
            {111111, 5, 1, 1, 1, 1, 1}, {900000, 1, 0, 0, 0, 0, 9}, {10, 9, 1, 0, 0, 0, 0},
            {9, 10, 0, 0, 0, 0, 0}, {91, 1, 9, 0, 0, 0, 0}, {50050, 0, 5, 0, 0, 5, 0}}) {
            CheapHours x = new CheapHours();
            x.levels(6);
            for (int i = 0; i < 6; i++) {
                check.yes("level", x.level(i, prices[i], run[0]));
            }
            int sum = 0;
            for (int i = 0; i < 6; i++) {
                sum += run[i + 1] * prices[i];
            }
            for (int i = 0; i < 6; i++) {
                check.due("chances " + run[0], x.table(2, 2, i), prices[i] * 100 + sum * 10);
            }
        }
    }

    private static void refuses(Check check) {
        CheapHours x = new CheapHours();
        x.levels(3);
        x.level(2, 10, 145);
        check.no("LEVEL 3", x.level(3, 1, 0));
        check.no("LEVEL -1", x.level(-1, 1, 0));
        check.no("PRICE -1", x.level(2, -1, 0));
        check.no("PRICE 1000", x.level(2, 1000, 0));
        check.no("chances -1", x.level(2, 1, -1));
        check.no("a LEVEL that there isn't", x.level(2, 1, 1000));
        check.no("a LEVEL far off", x.level(2, 1, 1000000000));
        check.no("eleven tenths", x.level(2, 1, 146));
        check.no("eleven tenths by two", x.level(2, 1, 920));
        check.no("greatest", x.level(2, 1, Integer.MAX_VALUE));
        check.no("least", x.level(2, 1, Integer.MIN_VALUE));
        // 10 for this hour, and one tenth of 10 for the next
        check.due("it stays", x.table(2, 2, 2), 1000 + 100);
        check.yes("PRICE 0", x.level(0, 0, 0));
        check.yes("PRICE 999", x.level(0, 999, 910));
        check.yes("ten tenths", x.level(1, 1, 235));
    }
}
