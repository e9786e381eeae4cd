/** Promises 9 and 10: levels and level. */
public final class P09LevelsTest {
    public static void main(String[] args) {
        Check check = new Check("promises 9 and 10");
        countsLevels(check);
        startsAnew(check);
        knowsHowMany(check);
        readsDigits(check);
        keepsOwnDigitBesideTheRest(check);
        setsOneLevelAlone(check);
        knowsItsLevels(check);
        knowsItsPrices(check);
        chancesArentBelow0(check);
        chancesTellOfLevelsThatAre(check);
        chancesAreNotMoreThan10(check);
        check.end();
    }

    private static void countsLevels(Check check) {
        check.about("promise 9: So many LEVELS");
        CheapHours x = new CheapHours();
        for (int n : new int[] {6, 5, 4, 3, 2, 1, 6, 1}) {
            check.yes("levels", x.levels(n));
            check.due("LEVELS", x.count(4), n);
            check.due("the last one", x.table(1, 1, n - 1), 0);
            check.none("behind the last one", x.table(1, 1, n));
            check.no("nor can it be set", x.level(n, 5, 0));
        }
    }

    private static void startsAnew(Check check) {
        check.about("promise 9: (all with PRICE 0, each going to LEVEL 0 for sure)");
        for (int n = 1; n <= 6; n++) {
            CheapHours x = new CheapHours();
            x.levels(6);
            for (int i = 0; i < 6; i++) {
                x.level(i, 70 + i, 111111);
            }
            check.due("before", x.worst(1, 1, 5), 75);
            x.levels(n);
            for (int i = 0; i < n; i++) {
                check.due("PRICE 0", x.table(12, 12, i), 0);
                check.due("worst", x.worst(12, 12, i), 0);
            }
            x.level(0, 5, 0);
            for (int i = 1; i < n; i++) {
                check.due("each goes to LEVEL 0", x.table(2, 2, i), 50 * 10);
                check.due("for sure", x.worst(2, 2, i), 5);
            }
        }
        CheapHours x = new CheapHours();
        x.levels(3);
        x.level(2, 80, 0);
        check.due("before", x.table(1, 1, 2), 800);
        x.levels(3);
        check.due("as many again are new", x.table(1, 1, 2), 0);
    }

    private static void knowsHowMany(Check check) {
        check.about("promise 9: false if it can't be");
        Edges.argument(check, CheapHours::new, (x, n) -> Edges.asked(x.levels(n)), 1, 6);
        check.due("none come by a refused call", none().count(4), 0);
    }

    private static CheapHours none() {
        CheapHours x = new CheapHours();
        x.levels(0);
        x.levels(7);
        return x;
    }

    /** With one hour to go, the mean behind a level is the sum of its chances times prices. */
    private static void readsDigits(Check check) {
        check.about("promise 10: that to LEVEL k is the k-th digit from the right, the rest to LEVEL 0");
        for (int[] run : new int[][] {{0, 10, 0, 0, 0, 0, 0}, {123, 7, 2, 1, 0, 0, 0},
            {111111, 5, 1, 1, 1, 1, 1}, {900000, 1, 0, 0, 0, 0, 9}, {10, 9, 1, 0, 0, 0, 0},
            {90000, 1, 0, 0, 0, 9, 0}, {9000, 1, 0, 0, 9, 0, 0}, {900, 1, 0, 9, 0, 0, 0},
            {90, 1, 9, 0, 0, 0, 0}, {50050, 0, 5, 0, 0, 5, 0}, {100009, 9, 0, 0, 0, 0, 1}}) {
            digits(check, run);
        }
    }

    private static void keepsOwnDigitBesideTheRest(Check check) {
        check.about("promise 10: (beside its own digit)");
        for (int[] run : new int[][] {{1, 10, 0, 0, 0, 0, 0}, {9, 10, 0, 0, 0, 0, 0},
            {91, 1, 9, 0, 0, 0, 0}, {19, 9, 1, 0, 0, 0, 0}, {12, 9, 1, 0, 0, 0, 0},
            {500005, 5, 0, 0, 0, 0, 5}, {500004, 5, 0, 0, 0, 0, 5}, {111115, 5, 1, 1, 1, 1, 1}}) {
            digits(check, run);
        }
    }

    private static void digits(Check check, int[] run) {
        int[] prices = {1, 2, 4, 8, 16, 32};
        CheapHours x = new CheapHours();
        x.levels(6);
        int sum = 0;
        for (int i = 0; i < 6; i++) {
            check.yes("level", x.level(i, prices[i], run[0]));
            sum += run[i + 1] * prices[i];
        }
        for (int i = 0; i < 6; i++) {
            check.due("chances " + run[0], x.table(2, 2, i), prices[i] * 100 + sum * 10);
        }
    }

    private static void setsOneLevelAlone(Check check) {
        check.about("promise 10: A LEVEL has a PRICE, and chances");
        CheapHours x = new CheapHours();
        x.levels(3);
        check.yes("level", x.level(1, 50, 200));
        check.due("it has", x.table(1, 1, 1), 500);
        check.due("those beside it haven't", x.table(1, 1, 0) + x.table(1, 1, 2), 0);
        check.yes("again", x.level(1, 60, 0));
        check.due("the latest holds", x.table(1, 1, 1), 600);
        check.due("the latest chances, too", x.worst(2, 2, 1), 60);
    }

    private static void knowsItsLevels(Check check) {
        check.about("promise 10: False if there is none such");
        Edges.argument(check, Desks::laidOut, (x, one) -> Edges.asked(x.level(one, 99, 0)), 0, 2);
        Edges.refusedOn(check, "no LEVELS yet", CheapHours::new, x -> Edges.asked(x.level(0, 99, 0)));
        for (int n = 1; n <= 6; n++) {
            int most = n;
            Edges.refusedOn(check, "one behind the last", () -> of(most),
                    x -> Edges.asked(x.level(most, 99, 0)));
            check.yes("the last one", of(n).level(n - 1, 99, 0));
        }
    }

    private static void knowsItsPrices(Check check) {
        check.about("promise 10: False if no such PRICE");
        Edges.argument(check, Desks::laidOut, (x, price) -> Edges.asked(x.level(1, price, 0)), 0, 999);
        for (int price : new int[] {0, 999}) {
            CheapHours x = new CheapHours();
            x.full(999);
            x.levels(1);
            x.level(0, 500, 0);
            check.yes("PRICE " + price, x.level(0, price, 0));
            check.due("it is that", x.worst(1, 1, 0), price);
        }
    }

    private static void chancesArentBelow0(Check check) {
        check.about("promise 10: False if chances are below 0");
        for (int chances : new int[] {-1, -5, -10, -11, -100, -100000, Integer.MIN_VALUE,
            Integer.MIN_VALUE + 1}) {
            Edges.refused(check, "chances " + chances, x -> Edges.asked(x.level(1, 99, chances)));
        }
        check.yes("chances 0", of(3).level(1, 99, 0));
    }

    private static void chancesTellOfLevelsThatAre(Check check) {
        check.about("promise 10: False if they tell of a LEVEL that there isn't");
        int place = 1;
        for (int n = 1; n <= 6; n++) {
            int last = place;
            int behind = place * 10;
            int most = n;
            check.yes("the last of " + n, of(n).level(0, 99, last));
            check.yes("9 to the last of " + n, of(n).level(0, 99, 9 * last));
            Edges.refusedOn(check, "one behind the last of " + n, () -> of(most),
                    x -> Edges.asked(x.level(0, 99, behind)));
            Edges.refusedOn(check, "that and others", () -> of(most),
                    x -> Edges.asked(x.level(0, 99, behind + last)));
            place = behind;
        }
        for (int chances : new int[] {1000000, 10000000, 100000000, 1000000000, 2000000000,
            Integer.MAX_VALUE}) {
            Edges.refused(check, "chances " + chances, x -> Edges.asked(x.level(1, 99, chances)));
            Edges.refusedOn(check, "of six, chances " + chances, () -> of(6),
                    x -> Edges.asked(x.level(1, 99, chances)));
        }
    }

    private static CheapHours of(int n) {
        CheapHours x = new CheapHours();
        x.levels(n);
        x.level(0, 7, 0);
        return x;
    }

    private static void chancesAreNotMoreThan10(Check check) {
        check.about("promise 10: False if they are together more than 10");
        for (int chances = 0; chances <= 999; chances++) {
            int sum = chances % 10 + chances / 10 % 10 + chances / 100;
            check.due("chances " + chances, of(3).level(2, 99, chances) ? 1 : 0, sum <= 10 ? 1 : 0);
        }
        check.yes("ten of six", of(6).level(5, 99, 122221));
        for (int chances : new int[] {122222, 900002, 920000, 222221, 999999}) {
            Edges.refusedOn(check, "more of six: " + chances, () -> of(6),
                    x -> Edges.asked(x.level(5, 99, chances)));
        }
        for (int chances : new int[] {29, 38, 92, 119, 191, 902, 911, 999}) {
            Edges.refused(check, "chances " + chances, x -> Edges.asked(x.level(1, 99, chances)));
        }
    }
}
