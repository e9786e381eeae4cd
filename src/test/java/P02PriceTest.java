/** Promise 2: price, told by the oracle and by a job's coins. */
public final class P02PriceTest {
    public static void main(String[] args) {
        Check check = new Check("promise 2");
        setsBothEnds(check);
        refuses(check);
        looksAtNow(check);
        takesBackALetting(check);
        check.end();
    }

    private static void setsBothEnds(Check check) {
        for (int market = 0; market < 3; market++) {
            CheapHours x = new CheapHours();
            check.yes("price to 999", x.price(market, 0, 199, 999));
            check.yes("price 7", x.price(market, 3, 5, 7));
            check.yes("price 0", x.price(market, 199, 199, 0));
            x.job(1006000 + market * 100, 999, 1);
            x.job(1200000 + market * 100, 6, 1);
            x.job(5010000 + market * 100, 7, 1);
            check.due("oracle", x.oracle(0), 7);
            check.due("oracle at 199", x.oracle(1), 0);
            x.go(3);
            check.due("waited before 3", x.told(2, 6), 3);
            x.go(1);
            check.due("paid at 3", x.told(2, 7), 7);
            x.go(2);
            check.due("paid at 5", x.told(2, 7), 21);
            check.due("came at 3, worked to 5", x.told(2, 3), 3);
            x.go(1);
            check.due("taken behind 5", x.told(2, 12), 1);
        }
    }

    private static void refuses(Check check) {
        CheapHours x = new CheapHours();
        x.job(1200000, 999, 1);
        check.no("market -1", x.price(-1, 0, 199, 1));
        check.no("market 3", x.price(3, 0, 199, 1));
        check.no("from -1", x.price(0, -1, 199, 1));
        check.no("from above to", x.price(0, 6, 5, 1));
        check.no("to 200", x.price(0, 0, 200, 1));
        check.no("price -2", x.price(0, 0, 199, -2));
        check.no("price 1000", x.price(0, 0, 199, 1000));
        check.no("greatest to", x.price(0, 0, Integer.MAX_VALUE, 1));
        check.no("least from", x.price(0, Integer.MIN_VALUE, 5, 1));
        check.no("least price", x.price(0, 0, 5, Integer.MIN_VALUE));
        check.due("nothing is let", x.oracle(0), 100);
    }

    private static void looksAtNow(Check check) {
        CheapHours x = new CheapHours();
        x.go(10);
        check.no("from below NOW", x.price(0, 9, 20, 1));
        check.yes("from NOW", x.price(0, 10, 20, 1));
        x.go(190);
        check.no("behind the last hour", x.price(0, 199, 199, 1));
        check.no("hour 200", x.price(0, 200, 200, 1));
    }

    private static void takesBackALetting(Check check) {
        CheapHours x = new CheapHours();
        x.price(0, 0, 9, 4);
        check.yes("NONE", x.price(0, 2, 3, -1));
        x.job(4100000, 4, 9);
        x.go(3);
        check.due("taken", x.told(0, 12), 1);
        x.go(1);
        check.due("waited", x.told(0, 6), 2);
    }
}
