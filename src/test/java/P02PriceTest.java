/** Promise 2: price, told by the oracle and by a job's coins. */
public final class P02PriceTest {
    public static void main(String[] args) {
        Check check = new Check("promise 2");
        setsBothEnds(check);
        setsOneHour(check);
        setsAllHours(check);
        takesBackALetting(check);
        takesTheLatest(check);
        knowsItsMarkets(check);
        knowsItsPrices(check);
        beginsAtNow(check);
        beginsNotAboveTo(check);
        endsAt199(check);
        hasNoHourBehindTheLast(check);
        check.end();
    }

    private static void setsBothEnds(Check check) {
        check.about("the HOURS from .. to (both counted)");
        for (int market = 0; market < 3; market++) {
            CheapHours x = new CheapHours();
            check.yes("price 7", x.price(market, 3, 5, 7));
            x.job(5100000 + market * 100, 7, 60);
            x.go(3);
            check.due("waited in 0 .. 2", x.told(0, 6), 3);
            x.go(1);
            check.due("paid in 3", x.told(0, 7), 7);
            x.go(2);
            check.due("paid in 3 .. 5", x.told(0, 7), 21);
            x.go(1);
            check.due("paid no more in 6", x.told(0, 7), 21);
            check.due("taken in 6", x.told(0, 12), 1);
        }
    }

    private static void setsOneHour(Check check) {
        check.about("the HOURS from .. to, from being to");
        for (int hour : new int[] {0, 1, 100, 198, 199}) {
            CheapHours x = new CheapHours();
            check.yes("price", x.price(1, hour, hour, 4));
            x.job(2200000, 0, 1);
            check.due("one hour at 4, one at FULL: hour " + hour, x.oracle(0), 104);
        }
    }

    private static void setsAllHours(Check check) {
        check.about("the HOURS from .. to, all of them");
        CheapHours x = new CheapHours();
        check.yes("price", x.price(2, 0, 199, 4));
        x.job(1001200, 4, 1);
        x.job(30200200, 4, 60);
        check.due("hour 0", x.oracle(0), 4);
        check.due("any hours", x.oracle(1), 120);
        x.go(30);
        check.due("paid in 0 .. 29", x.told(1, 7), 120);
        x.go(169);
        x.job(1200200, 4, 1);
        check.due("hour 199", x.oracle(2), 4);
    }

    private static void takesBackALetting(Check check) {
        check.about("NONE: nothing is let");
        CheapHours x = new CheapHours();
        x.price(0, 0, 9, 4);
        check.yes("NONE", x.price(0, 2, 3, CheapHours.NONE));
        x.job(4100000, 999, 9);
        x.job(10010000, 4, 9);
        check.due("eight hours at 4, two at FULL", x.oracle(1), 232);
        x.go(2);
        check.due("on a machine", x.told(0, 9), 1);
        x.go(1);
        check.due("taken", x.told(0, 12), 1);
        x.go(1);
        check.due("waited in 2 and 3", x.told(0, 6), 2);
        x.go(1);
        check.due("on a machine in 4", x.told(0, 9), 1);
        check.due("paid nothing in 2 and 3", x.told(0, 7), 12);
    }

    private static void takesTheLatest(Check check) {
        check.about("A MARKET's PRICE is that");
        CheapHours x = new CheapHours();
        x.price(0, 0, 199, 999);
        x.price(0, 0, 199, 5);
        x.price(0, 1, 1, 0);
        x.price(1, 0, 199, 900);
        x.job(3100000, 999, 9);
        x.go(3);
        check.due("5, 0 and 5", x.told(0, 7), 10);
    }

    private static void knowsItsMarkets(Check check) {
        check.about("false if there is none such");
        Edges.argument(check, CheapHours::new,
                (x, market) -> Edges.asked(x.price(market, 10, 20, 1)), 0, 2);
    }

    private static void knowsItsPrices(Check check) {
        check.about("false if it can't be");
        Edges.argument(check, CheapHours::new,
                (x, price) -> Edges.asked(x.price(0, 10, 20, price)), -1, 999);
    }

    private static void beginsAtNow(Check check) {
        check.about("false if from is below NOW");
        Edges.argument(check, CheapHours::new, (x, from) -> Edges.asked(x.price(0, from, 30, 1)), 0, 30);
        for (int now : new int[] {1, 10, 198, 199}) {
            Edges.refusedOn(check, "NOW " + now + ", from one less", () -> at(now),
                    x -> Edges.asked(x.price(0, now - 1, 199, 1)));
            Edges.refusedOn(check, "NOW " + now + ", from 0", () -> at(now),
                    x -> Edges.asked(x.price(0, 0, 199, 1)));
            CheapHours x = at(now);
            check.yes("NOW " + now + ", from NOW", x.price(0, now, 199, 1));
            x.job(1200000, 1, 1);
            check.due("it is that", x.oracle(0), 1);
        }
    }

    private static void beginsNotAboveTo(Check check) {
        check.about("false if from is above to");
        for (int to : new int[] {0, 5, 198}) {
            Edges.refused(check, "to " + to + ", from one more", x -> Edges.asked(x.price(0, to + 1, to, 1)));
            Edges.refused(check, "to " + to + ", from 199", x -> Edges.asked(x.price(0, 199, to, 1)));
        }
        Edges.refused(check, "both beyond", x -> Edges.asked(x.price(0, 201, 200, 1)));
        Edges.refused(check, "both below", x -> Edges.asked(x.price(0, -1, -2, 1)));
    }

    private static void endsAt199(Check check) {
        check.about("false if to is above 199");
        Edges.argument(check, CheapHours::new, (x, to) -> Edges.asked(x.price(1, 10, to, 1)), 10, 199);
        Edges.refused(check, "200 alone", x -> Edges.asked(x.price(1, 200, 200, 1)));
        Edges.refused(check, "as if of the next market", x -> Edges.asked(x.price(0, 200, 399, 1)));
        Edges.refused(check, "all ints", x -> Edges.asked(
                x.price(0, Integer.MIN_VALUE, Integer.MAX_VALUE, 1)));
    }

    private static void hasNoHourBehindTheLast(Check check) {
        check.about("from is below NOW, NOW being 200");
        for (int hour : new int[] {0, 198, 199, 200, 201}) {
            Edges.refusedOn(check, "hour " + hour, () -> at(200),
                    x -> Edges.asked(x.price(0, hour, hour, 1)));
        }
    }

    private static CheapHours at(int now) {
        CheapHours x = new CheapHours();
        x.price(0, 0, 199, 50);
        x.go(now);
        return x;
    }
}
