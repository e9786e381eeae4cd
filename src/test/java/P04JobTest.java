/** Promise 4: job. */
public final class P04JobTest {
    public static void main(String[] args) {
        Check check = new Check("promise 4");
        takesTheEdges(check);
        refuses(check);
        looksAtNow(check);
        takesTwelve(check);
        check.end();
    }

    private static void takesTheEdges(Check check) {
        CheapHours x = new CheapHours();
        check.due("least", x.job(1001000, 0, 1), 0);
        check.due("greatest", x.job(30200255, 999, 60), 1);
        check.due("WORK is DUE less NOW", x.job(30030000, 0, 1), 2);
        check.due("NEED", x.told(1, 11), 30);
        check.due("not READY", x.told(1, 10), -1);
        check.due("count(1)", x.count(1), 3);
    }

    private static void refuses(Check check) {
        CheapHours x = new CheapHours();
        check.none("WORK 0", x.job(200000, 0, 1));
        check.none("WORK 31", x.job(31200000, 0, 1));
        check.none("DUE 0", x.job(1000000, 0, 1));
        check.none("DUE 201", x.job(1201000, 0, 1));
        check.none("DUE 999", x.job(1999000, 0, 1));
        check.none("MARKET 3", x.job(1100300, 0, 1));
        check.none("SAVE 6", x.job(1100060, 0, 1));
        check.none("BRING 6", x.job(1100006, 0, 1));
        check.none("not PROMISED", x.job(5004000, 0, 1));
        check.none("BID -1", x.job(1100000, -1, 1));
        check.none("BID 1000", x.job(1100000, 1000, 1));
        check.none("SPAN 0", x.job(1100000, 0, 0));
        check.none("SPAN 61", x.job(1100000, 0, 61));
        check.none("below 0", x.job(-1100000, 0, 1));
        check.none("-1", x.job(-1, 0, 1));
        check.none("least", x.job(Integer.MIN_VALUE, 0, 1));
        check.none("greatest", x.job(Integer.MAX_VALUE, 0, 1));
        check.due("count(1)", x.count(1), 0);
        check.none("told(0, 0)", x.told(0, 0));
        check.due("the first one", x.job(1100000, 0, 1), 0);
    }

    private static void looksAtNow(Check check) {
        CheapHours x = new CheapHours();
        x.go(95);
        check.none("WORK above DUE less NOW", x.job(6100000, 0, 1));
        check.due("WORK is DUE less NOW", x.job(5100000, 0, 1), 0);
        check.none("DUE is past", x.job(1094000, 0, 1));
        x.go(105);
        check.none("NOW is 200", x.job(1200000, 0, 1));
    }

    private static void takesTwelve(Check check) {
        CheapHours x = new CheapHours();
        for (int i = 0; i < 12; i++) {
            check.due("job", x.job(1001000, 0, 1), i);
        }
        check.none("the 13th", x.job(1001000, 0, 1));
        x.go(1);
        check.due("READY ones", x.count(2), 12);
        check.none("the 13th, all being READY", x.job(1100000, 0, 1));
        check.due("count(1)", x.count(1), 12);
    }
}
