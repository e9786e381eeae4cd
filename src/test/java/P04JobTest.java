/** Promise 4: job. */
public final class P04JobTest {
    private static final int GOOD = 1200000;

    public static void main(String[] args) {
        Check check = new Check("promise 4");
        answersItsNumber(check);
        readsItsParts(check);
        knowsItsWork(check);
        knowsItsDue(check);
        knowsItsMarketSaveAndBring(check);
        knowsAllInts(check);
        knowsItsBid(check);
        knowsItsSpan(check);
        isPromised(check);
        takesTwelve(check);
        check.end();
    }

    private static void answersItsNumber(Check check) {
        check.about("A JOB comes: its number");
        CheapHours x = new CheapHours();
        check.due("the least of all", x.job(1001000, 0, 1), 0);
        check.due("JOBS", x.count(1), 1);
        check.none("a refused one takes no number", x.job(31200000, 0, 1));
        check.due("the greatest of all", x.job(30200255, 999, 60), 1);
        x.go(7);
        check.due("later", x.job(1200000, 0, 1), 2);
        check.due("JOBS", x.count(1), 3);
        check.none("no number 3 yet", x.told(3, 0));
    }

    /** Each part has a number of its own here, and is seen by what the job does. */
    private static void readsItsParts(Check check) {
        check.about("WORK * 1000000 + DUE * 1000 + MARKET * 100 + SAVE * 10 + BRING");
        CheapHours x = new CheapHours();
        x.price(1, 0, 9, 7);
        x.price(1, 12, 199, 8);
        x.job(6150134, 9, 5);
        check.due("WORK", x.told(0, 11), 6);
        x.go(10);
        // five of work, three of saving, one of work, one of saving
        check.due("SPAN 5 and SAVE 3", x.told(0, 0), 5);
        check.due("the last one", x.told(0, 1), 1);
        check.due("MARKET 1", x.told(0, 7), 10 * 7);
        x.go(20);
        // four of bringing back, one of work, three of saving
        check.due("BRING 4", x.told(0, 4), 4);
        check.due("SAVE 3", x.told(0, 5), 7);
        check.due("coins", x.told(0, 7), 10 * 7 + 8 * 8);
        check.due("READY", x.told(0, 10), 20);

        CheapHours late = new CheapHours();
        late.job(6150134, 9, 5);
        late.go(200);
        check.due("DUE", late.told(0, 10), 150);
    }

    private static void knowsItsWork(Check check) {
        check.about("NONE if that can't be: WORK 1 .. 30");
        for (int work = 1; work <= 30; work++) {
            CheapHours x = new CheapHours();
            check.due("WORK " + work, x.job(work * 1000000 + 200000, 0, 1), 0);
            check.due("NEED", x.told(0, 11), work);
            x.go(200);
            check.due("all SAVED", x.told(0, 0), work);
        }
        for (int work : new int[] {0, 31, 32, 130, 286, 1030, 2147}) {
            Edges.refused(check, "WORK " + work, x -> x.job(work * 1000000 + 200000, 0, 1));
        }
    }

    private static void knowsItsDue(Check check) {
        check.about("NONE if that can't be: DUE an HOUR, or 200");
        for (int due = 1; due <= 200; due++) {
            check.due("DUE " + due, new CheapHours().job(1000000 + due * 1000, 0, 1), 0);
        }
        for (int due : new int[] {0, 201, 202, 256, 400, 998, 999}) {
            Edges.refused(check, "DUE " + due, x -> x.job(1000000 + due * 1000, 0, 1));
        }
    }

    private static void knowsItsMarketSaveAndBring(Check check) {
        check.about("NONE if that can't be: MARKET 0 .. 2, SAVE 0 .. 5, BRING 0 .. 5");
        for (int digit = 0; digit <= 9; digit++) {
            part(check, "MARKET " + digit, GOOD + digit * 100, digit <= 2);
            part(check, "SAVE " + digit, GOOD + digit * 10, digit <= 5);
            part(check, "BRING " + digit, GOOD + digit, digit <= 5);
        }
    }

    private static void part(Check check, String name, int what, boolean canBe) {
        if (canBe) {
            check.due(name, new CheapHours().job(what, 0, 1), 0);
        } else {
            Edges.refused(check, name, x -> x.job(what, 0, 1));
        }
    }

    private static void knowsAllInts(Check check) {
        check.about("NONE if that can't be, whatever the int is");
        for (int what : new int[] {Integer.MIN_VALUE, Integer.MIN_VALUE + 1, -GOOD, -30200255, -1001000,
            -1, 0, 1, 200000, 999999, 1000000, 1000999, 30200256, 31001000, Integer.MAX_VALUE}) {
            Edges.refused(check, "what " + what, x -> x.job(what, 0, 1));
        }
        check.due("the least one", new CheapHours().job(1001000, 0, 1), 0);
        check.due("the greatest one", new CheapHours().job(30200255, 0, 1), 0);
    }

    private static void knowsItsBid(Check check) {
        check.about("NONE if BID can't be: 0 .. 999");
        Edges.argument(check, CheapHours::new, (x, bid) -> x.job(GOOD, bid, 1), 0, 999);
    }

    private static void knowsItsSpan(Check check) {
        check.about("NONE if SPAN can't be: 1 .. 60");
        Edges.argument(check, CheapHours::new, (x, span) -> x.job(GOOD, 0, span), 1, 60);
    }

    private static void isPromised(Check check) {
        check.about("NONE if it can't be PROMISED");
        for (int now : new int[] {0, 1, 95, 170, 199}) {
            int most = Math.min(30, 200 - now);
            for (int work = 1; work <= most; work++) {
                int due = now + work;
                check.due("WORK is DUE less NOW", at(now).job(work * 1000000 + due * 1000, 0, 1), 0);
                int late = work * 1000000 + (due - 1) * 1000;
                Edges.refusedOn(check, "one hour less, NOW " + now, () -> at(now),
                        x -> x.job(late, 0, 1));
            }
        }
        Edges.refusedOn(check, "DUE is NOW", () -> at(95), x -> x.job(1095000, 0, 1));
        Edges.refusedOn(check, "DUE is past", () -> at(95), x -> x.job(1094000, 0, 1));
        Edges.refusedOn(check, "DUE is long past", () -> at(95), x -> x.job(1000000, 0, 1));
        Edges.refusedOn(check, "NOW is 200", () -> at(200), x -> x.job(1200000, 0, 1));
    }

    private static CheapHours at(int now) {
        CheapHours x = new CheapHours();
        x.go(now);
        return x;
    }

    private static void takesTwelve(Check check) {
        check.about("NONE if 12 came");
        CheapHours x = new CheapHours();
        for (int i = 0; i < 12; i++) {
            check.due("job", x.job(1001000, 0, 1), i);
        }
        check.none("the 13th", x.job(1001000, 0, 1));
        check.due("JOBS", x.count(1), 12);
        x.go(1);
        check.due("READY ones", x.count(2), 12);
        check.none("the 13th, all being READY", x.job(1200000, 0, 1));
        check.due("JOBS", x.count(1), 12);
        Edges.refusedOn(check, "the 13th", Desks::crowded, y -> y.job(GOOD, 5, 1));
    }
}
