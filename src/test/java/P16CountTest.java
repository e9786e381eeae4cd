/** Promise 16: count. */
public final class P16CountTest {
    public static void main(String[] args) {
        Check check = new Check("promise 16");
        countsOnANewDesk(check);
        countsAll(check);
        countsReadyOnes(check);
        countsAllThatMayCome(check);
        knowsItsWhats(check);
        check.end();
    }

    private static void counts(Check check, CheapHours x, int... dues) {
        for (int what = 0; what < dues.length; what++) {
            check.due("count(" + what + ")", x.count(what), dues[what]);
        }
    }

    private static void countsOnANewDesk(Check check) {
        check.about("0 NOW, 1 JOBS, 2 READY ones, 3 all coins paid, 4 LEVELS, 5 FULL: nothing there yet");
        counts(check, new CheapHours(), 0, 0, 0, 0, 0, 100);
    }

    private static void countsAll(Check check) {
        check.about("0 NOW, 1 JOBS, 2 READY ones, 3 all coins paid, 4 LEVELS, 5 FULL");
        CheapHours x = new CheapHours();
        x.full(7);
        x.levels(4);
        x.price(0, 0, 199, 3);
        x.job(2100000, 3, 1);
        x.job(4100000, 3, 1);
        x.job(3003000, 0, 1);
        counts(check, x, 0, 3, 0, 0, 4, 7);
        x.go(2);
        // the third one is at FULL from the first hour on
        counts(check, x, 2, 3, 1, 6 + 6 + 14, 4, 7);
        x.go(98);
        counts(check, x, 100, 3, 3, 6 + 12 + 21, 4, 7);
    }

    private static void countsReadyOnes(Check check) {
        check.about("2 READY ones");
        CheapHours x = new CheapHours();
        for (int i = 1; i <= 12; i++) {
            x.job(1000000 + i * 1000, 0, 1);
        }
        for (int now = 0; now <= 13; now++) {
            check.due("behind " + now, x.count(2), Math.min(now, 12));
            check.due("coins", x.count(3), 100 * Math.min(now, 12));
            x.go(1);
        }
    }

    /** Twelve jobs of thirty hours at the greatest FULL. */
    private static void countsAllThatMayCome(Check check) {
        check.about("3 all coins paid, all that may come having come");
        CheapHours x = new CheapHours();
        x.full(999);
        x.levels(6);
        for (int i = 0; i < 12; i++) {
            x.job(30030000, 0, 1);
        }
        x.go(200);
        counts(check, x, 200, 12, 12, 12 * 30 * 999, 6, 999);
    }

    private static void knowsItsWhats(Check check) {
        check.about("NONE for others");
        Edges.argument(check, Desks::busy, (x, what) -> x.count(what), 0, 5);
    }
}
