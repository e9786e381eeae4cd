/** Term 1: hours, markets, prices, FULL and jobs, at the edges of each. */
public final class T1HoursAndJobsTest {
    public static void main(String[] args) {
        Check check = new Check("term 1");
        nowIsZeroAtFirst(check);
        nowIs200BehindTheLast(check);
        hoursAre0To199(check);
        marketsAreThree(check);
        pricesAre0To999(check);
        nothingIsLetAtFirst(check);
        fullIs100AtFirst(check);
        fullIsThereInEachHour(check);
        fullIsNeverTaken(check);
        numbersAsTheyCome(check);
        readyAsDueBegins(check);
        bidIs0To999(check);
        spanIs1To60(check);
        saveIs0To5(check);
        bringIs0To5(check);
        promisedByItsHours(check);
        needIsWork(check);
        needIsLessBehindBring(check);
        guardedByNeed(check);
        guardedByNeedOfWhatIsSaved(check);
        guardedEver(check);
        check.end();
    }

    private static void nowIsZeroAtFirst(Check check) {
        check.about("NOW is 0 at first");
        CheapHours x = new CheapHours();
        check.due("NOW", x.count(0), 0);
        check.yes("hour 0 is still to come", x.price(0, 0, 0, 1));
        check.due("a job that is DUE behind hour 0", x.job(1001000, 1, 1), 0);
    }

    private static void nowIs200BehindTheLast(Check check) {
        check.about("NOW is 200 behind the last one");
        CheapHours x = new CheapHours();
        check.due("go(199)", x.go(199), 199);
        check.yes("hour 199 is still to come", x.price(0, 199, 199, 1));
        check.due("a job for hour 199", x.job(1200000, 1, 1), 0);
        check.due("go(1)", x.go(1), 200);
        check.due("it is READY", x.told(0, 10), 200);
        check.no("no hour is to come", x.price(0, 199, 199, 2));
        check.no("nor is 200 one", x.price(0, 200, 200, 2));
        check.none("no job can come", x.job(1200000, 1, 1));
        check.due("go(1)", x.go(1), 200);
    }

    private static void hoursAre0To199(Check check) {
        check.about("HOURS are 0 .. 199");
        CheapHours x = new CheapHours();
        check.yes("the first one", x.price(0, 0, 0, 2));
        check.yes("the last one", x.price(0, 199, 199, 3));
        check.no("one before", x.price(0, -1, 0, 4));
        check.no("one behind", x.price(0, 199, 200, 5));
        x.job(2200000, 2, 1);
        check.due("both are there", x.oracle(0), 5);
        x.go(1);
        check.due("worked in the first one", x.told(0, 7), 2);
    }

    private static void marketsAreThree(Check check) {
        check.about("MARKETS 0 .. 2 have a PRICE for each HOUR");
        CheapHours x = new CheapHours();
        for (int market = 0; market < 3; market++) {
            check.yes("price", x.price(market, 0, 199, 10 + market));
            check.due("job", x.job(2200000 + market * 100, 12, 1), market);
        }
        check.no("price of market 3", x.price(3, 0, 199, 1));
        check.no("price of market -1", x.price(-1, 0, 199, 1));
        check.none("a job of market 3", x.job(2200300, 12, 1));
        x.go(2);
        for (int market = 0; market < 3; market++) {
            check.due("coins at market " + market, x.told(market, 7), 20 + 2 * market);
        }
    }

    private static void pricesAre0To999(Check check) {
        check.about("a PRICE (0 .. 999)");
        CheapHours x = new CheapHours();
        x.price(0, 0, 199, 0);
        x.price(1, 0, 199, 999);
        x.job(3100000, 0, 60);
        x.job(3100100, 999, 60);
        check.due("the oracle pays 0", x.oracle(1), 0);
        x.go(3);
        check.due("READY for nothing", x.told(0, 10), 3);
        check.due("coins", x.told(0, 7), 0);
        check.due("READY for much", x.told(1, 10), 3);
        check.due("coins", x.told(1, 7), 2997);
    }

    private static void nothingIsLetAtFirst(Check check) {
        check.about("NONE at first: nothing is let then");
        CheapHours x = new CheapHours();
        x.job(1100000, 999, 1);
        x.price(0, 99, 99, 0);
        x.go(99);
        check.due("WAITED whatever its BID", x.told(0, 6), 99);
        check.due("on no machine", x.told(0, 9), 0);
        check.due("never TAKEN", x.told(0, 12), 0);
        check.due("coins", x.told(0, 7), 0);
    }

    private static void fullIs100AtFirst(Check check) {
        check.about("FULL is a price (1 .. 999; 100 at first)");
        CheapHours x = new CheapHours();
        check.due("FULL", x.count(5), 100);
        x.job(1001000, 0, 1);
        x.go(1);
        check.due("coins", x.told(0, 7), 100);
        CheapHours least = new CheapHours();
        check.no("full(0)", least.full(0));
        check.yes("full(1)", least.full(1));
        least.job(1001000, 0, 1);
        least.go(1);
        check.due("coins", least.told(0, 7), 1);
        CheapHours most = new CheapHours();
        check.no("full(1000)", most.full(1000));
        check.yes("full(999)", most.full(999));
        most.job(1001000, 0, 1);
        most.go(1);
        check.due("coins", most.told(0, 7), 999);
    }

    private static void fullIsThereInEachHour(Check check) {
        check.about("there is a machine in each HOUR");
        for (int hour = 0; hour < 200; hour++) {
            CheapHours x = new CheapHours();
            x.go(hour);
            x.job(1001000 + hour * 1000, 0, 1);
            check.due("the oracle, hour " + hour, x.oracle(0), 100);
            x.go(1);
            check.due("READY, hour " + hour, x.told(0, 10), hour + 1);
        }
    }

    private static void fullIsNeverTaken(Check check) {
        check.about("that is never taken");
        CheapHours x = new CheapHours();
        x.price(0, 0, 199, 999);
        x.price(0, 10, 20, -1);
        x.job(30030000, 0, 1);
        for (int hour = 1; hour < 30; hour++) {
            x.go(1);
            check.due("at FULL", x.told(0, 9), 2);
            check.due("SAVED", x.told(0, 0), hour);
        }
        x.go(1);
        check.due("READY", x.told(0, 10), 30);
        check.due("TAKEN", x.told(0, 12), 0);
        check.due("LOST", x.told(0, 2), 0);
    }

    private static void numbersAsTheyCome(Check check) {
        check.about("JOBS have numbers as they come, at most 12");
        CheapHours x = new CheapHours();
        for (int number = 0; number < 12; number++) {
            check.none("none of that number yet", x.told(number, 11));
            check.none("one that can't be", x.job(number * 1000000, 0, 1));
            check.due("number", x.job((number + 1) * 1000000 + 200000, 0, 1), number);
            check.due("its WORK", x.told(number, 11), number + 1);
        }
        check.none("a 13th", x.job(13200000, 0, 1));
        check.none("told of a 13th", x.told(12, 11));
        for (int number = 0; number < 12; number++) {
            check.due("they keep their numbers", x.told(number, 11), number + 1);
        }
    }

    private static void readyAsDueBegins(Check check) {
        check.about("DUE (an HOUR, or 200: ready as it begins)");
        for (int due = 1; due <= 200; due++) {
            CheapHours x = new CheapHours();
            int work = Math.min(30, due);
            check.due("job", x.job(work * 1000000 + due * 1000, 0, 1), 0);
            x.go(due - 1);
            check.due("not yet, DUE " + due, x.told(0, 10), -1);
            x.go(1);
            check.due("READY", x.told(0, 10), due);
            check.due("WAITED", x.told(0, 6), due - work);
        }
        check.none("DUE 0", new CheapHours().job(1000000, 0, 1));
        check.none("DUE 201", new CheapHours().job(1201000, 0, 1));
    }

    private static void bidIs0To999(Check check) {
        check.about("a BID (0 .. 999)");
        for (int bid : new int[] {0, 1, 500, 998, 999}) {
            CheapHours x = new CheapHours();
            x.price(0, 0, 199, bid);
            x.job(2100000, bid, 1);
            x.go(1);
            check.due("the PRICE is its BID " + bid, x.told(0, 9), 1);
            if (bid < 999) {
                x.price(0, 1, 199, bid + 1);
                x.go(1);
                check.due("the PRICE is one above", x.told(0, 9), 0);
            }
        }
        check.none("BID -1", new CheapHours().job(1100000, -1, 1));
        check.none("BID 1000", new CheapHours().job(1100000, 1000, 1));
    }

    /** With SAVE 1 and WORK 30 each save is one hour more. */
    private static void spanIs1To60(Check check) {
        check.about("SPAN (1 .. 60: how many HOURS of work it does between saves)");
        int[][] dues = {{1, 60}, {2, 45}, {14, 33}, {15, 32}, {16, 32}, {29, 32}, {30, 31}, {31, 31},
            {59, 31}, {60, 31}};
        for (int[] due : dues) {
            CheapHours x = new CheapHours();
            x.price(0, 0, 199, 0);
            check.due("job", x.job(30200010, 0, due[0]), 0);
            x.go(199);
            check.due("SPAN " + due[0] + ", READY", x.told(0, 10), due[1]);
            check.due("HOURS of saving", x.told(0, 5), due[1] - 30);
        }
        check.none("SPAN 0", new CheapHours().job(1100000, 0, 0));
        check.none("SPAN 61", new CheapHours().job(1100000, 0, 61));
    }

    private static void saveIs0To5(Check check) {
        check.about("SAVE (0 .. 5 HOURS that a save takes)");
        for (int save = 0; save <= 5; save++) {
            CheapHours x = new CheapHours();
            x.price(0, 0, 199, 1);
            x.job(4200000 + save * 10, 1, 2);
            x.go(2 + save);
            check.due("the first save is through, SAVE " + save, x.told(0, 0), 2);
            x.go(2 + save);
            check.due("READY", x.told(0, 10), 4 + 2 * save);
            check.due("HOURS of saving", x.told(0, 5), 2 * save);
        }
        check.none("SAVE 6", new CheapHours().job(1100060, 0, 1));
    }

    private static void bringIs0To5(Check check) {
        check.about("BRING (0 .. 5: HOURS that it takes to bring back)");
        for (int bring = 0; bring <= 5; bring++) {
            CheapHours x = new CheapHours();
            x.price(0, 0, 0, 1);
            x.price(0, 2, 199, 1);
            x.job(2200000 + bring, 1, 1);
            x.go(2 + bring);
            check.due("brought back, BRING " + bring, x.told(0, 4), bring);
            check.due("not yet READY", x.told(0, 10), -1);
            x.go(1);
            check.due("READY", x.told(0, 10), 3 + bring);
            check.due("HOURS of bringing back", x.told(0, 4), bring);
        }
        check.none("BRING 6", new CheapHours().job(1100006, 0, 1));
    }

    private static void promisedByItsHours(Check check) {
        check.about("It is PROMISED if WORK isn't above DUE less NOW; else it doesn't come");
        CheapHours x = new CheapHours();
        x.go(170);
        check.none("31 hours would be too many anyway", x.job(31200000, 0, 1));
        check.due("30 of 30", x.job(30200000, 0, 1), 0);
        x.go(1);
        check.none("30 of 29", x.job(30200000, 0, 1));
        check.due("JOBS", x.count(1), 1);
        check.due("29 of 29", x.job(29200000, 0, 1), 1);
        check.due("28 of 29", x.job(28200000, 0, 1), 2);
        check.none("1 of 0", x.job(1171000, 0, 1));
        check.none("1 of -1", x.job(1170000, 0, 1));
        check.due("1 of 1", x.job(1172000, 0, 1), 3);
    }

    private static void needIsWork(Check check) {
        check.about("NEED of a JOB is WORK");
        for (int work : new int[] {1, 2, 29, 30}) {
            CheapHours x = new CheapHours();
            x.price(0, 0, 199, 0);
            x.job(work * 1000000 + 200055, 0, 60);
            check.due("as it comes", x.told(0, 11), work);
            x.go(1);
            check.due("what isn't SAVED doesn't count", x.told(0, 11), work);
        }
    }

    private static void needIsLessBehindBring(Check check) {
        check.about("if more than BRING is SAVED, WORK less that, and BRING");
        int[][] needs = {{10, 9, 8, 7, 6, 5, 4, 3, 2, 1}, {10, 10, 9, 8, 7, 6, 5, 4, 3, 2},
            {10, 10, 10, 9, 8, 7, 6, 5, 4, 3}, {10, 10, 10, 10, 9, 8, 7, 6, 5, 4},
            {10, 10, 10, 10, 10, 9, 8, 7, 6, 5}, {10, 10, 10, 10, 10, 10, 9, 8, 7, 6}};
        for (int bring = 0; bring <= 5; bring++) {
            CheapHours x = new CheapHours();
            x.price(0, 0, 199, 0);
            x.job(10200000 + bring, 0, 1);
            for (int saved = 0; saved < 10; saved++) {
                check.due("SAVED", x.told(0, 0), saved);
                check.due("BRING " + bring + ", SAVED " + saved, x.told(0, 11), needs[bring][saved]);
                x.go(1);
            }
        }
    }

    private static void guardedByNeed(Check check) {
        check.about("GUARDED in an HOUR h if DUE less h isn't above NEED as it begins");
        CheapHours x = new CheapHours();
        x.job(4009000, 0, 1);
        x.price(1, 0, 199, 1);
        x.job(4009150, 1, 60);
        x.go(5);
        check.due("in 4, DUE less h being 5: it waits", x.told(0, 6), 5);
        check.due("at FULL", x.told(0, 8), 0);
        check.due("the other is at its market", x.told(1, 9), 1);
        x.go(1);
        check.due("in 5, DUE less h being 4", x.told(0, 9), 2);
        check.due("at FULL", x.told(0, 8), 1);
        check.due("the other is at FULL", x.told(1, 9), 2);
        x.go(3);
        check.due("READY as DUE begins", x.told(0, 10), 9);
        check.due("the other, too", x.told(1, 10), 9);
        CheapHours atOnce = new CheapHours();
        atOnce.price(0, 0, 199, 0);
        atOnce.job(30030000, 999, 1);
        atOnce.go(1);
        check.due("as it comes", atOnce.told(0, 9), 2);
        CheapHours oneLater = new CheapHours();
        oneLater.price(0, 0, 199, 0);
        oneLater.job(30031000, 999, 60);
        oneLater.go(1);
        check.due("one hour is free", oneLater.told(0, 9), 1);
        oneLater.go(1);
        check.due("then it is GUARDED", oneLater.told(0, 9), 2);
    }

    /** Three hours are SAVED: with BRING 2 they count, with BRING 3 they don't. */
    private static void guardedByNeedOfWhatIsSaved(Check check) {
        check.about("GUARDED by NEED, more than BRING being SAVED");
        CheapHours x = new CheapHours();
        x.price(0, 0, 2, 0);
        x.job(8020002, 0, 3);
        x.job(8020003, 0, 3);
        x.go(12);
        check.due("NEED 7", x.told(0, 11), 7);
        check.due("NEED 8", x.told(1, 11), 8);
        check.due("both wait in 11", x.told(1, 9), 0);
        x.go(1);
        check.due("in 12 the first one waits", x.told(0, 9), 0);
        check.due("the other is at FULL", x.told(1, 9), 2);
        x.go(1);
        check.due("in 13 the first one is at FULL", x.told(0, 9), 2);
        x.go(6);
        check.due("READY", x.told(0, 10), 20);
        check.due("READY", x.told(1, 10), 20);
    }

    private static void guardedEver(Check check) {
        check.about("(and ever behind it)");
        CheapHours x = new CheapHours();
        x.price(0, 0, 199, 0);
        x.job(10010000, 999, 1);
        x.job(10012002, 999, 5);
        x.go(2);
        check.due("the market would be free", x.told(0, 9), 2);
        for (int hour = 3; hour < 10; hour++) {
            x.go(1);
            check.due("at FULL behind " + hour, x.told(0, 9), 2);
        }
        x.go(1);
        check.due("ten hours at FULL", x.told(0, 8), 10);
        check.due("coins", x.told(0, 7), 1000);
    }
}
