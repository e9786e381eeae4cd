/** Promise 6: told, hour by hour, against runs made by hand and against a model. */
public final class P06ToldTest {
    private static final String[] NAMES = {"SAVED", "unsaved", "LOST", "work", "bringing", "saving",
        "WAITED", "paid", "at FULL", "where", "READY", "NEED", "TAKEN"};

    public static void main(String[] args) {
        Check check = new Check("promise 6");
        savesAtMarket(check);
        losesASaveThatIsntThrough(check);
        bringsBackAnew(check);
        goesToFull(check);
        beginsAnewAtFull(check);
        savesAtOnce(check);
        isGuardedEver(check);
        tellsWhere(check);
        tellsWhenItWasReady(check);
        tellsNeed(check);
        knowsItsWhats(check);
        knowsItsJobs(check);
        asTheModel(check);
        check.end();
    }

    /** Dues are given in the order of NAMES. */
    private static void row(Check check, String when, CheapHours x, int job, int... dues) {
        for (int what = 0; what < dues.length; what++) {
            check.due(when + ": " + NAMES[what], x.told(job, what), dues[what]);
        }
    }

    private static void savesAtMarket(Check check) {
        check.about("all of 0 .. 12, at its MARKET");
        CheapHours x = new CheapHours();
        x.price(2, 0, 199, 9);
        x.job(5100220, 9, 3);
        row(check, "new", x, 0, 0, 0, 0, 0, 0, 0, 0, 0, 0, 0, -1, 5, 0);
        x.go(3);
        row(check, "SPAN worked", x, 0, 0, 3, 0, 3, 0, 0, 0, 27, 0, 1, -1, 5, 0);
        x.go(1);
        row(check, "half saved", x, 0, 0, 3, 0, 3, 0, 1, 0, 36, 0, 1, -1, 5, 0);
        x.go(1);
        row(check, "saved", x, 0, 3, 0, 0, 3, 0, 2, 0, 45, 0, 1, -1, 2, 0);
        x.go(2);
        row(check, "all done", x, 0, 3, 2, 0, 5, 0, 2, 0, 63, 0, 1, -1, 2, 0);
        x.go(2);
        row(check, "READY", x, 0, 5, 0, 0, 5, 0, 4, 0, 81, 0, 0, 9, 0, 0);
        x.go(50);
        row(check, "long READY", x, 0, 5, 0, 0, 5, 0, 4, 0, 81, 0, 0, 9, 0, 0);
    }

    private static void losesASaveThatIsntThrough(Check check) {
        check.about("2 LOST, 5 HOURS of saving, 12 how often it was TAKEN");
        CheapHours x = new CheapHours();
        x.price(0, 0, 199, 1);
        x.price(0, 4, 4, 6);
        x.job(5100030, 5, 2);
        x.go(4);
        row(check, "two of three hours saved", x, 0, 0, 2, 0, 2, 0, 2, 0, 4, 0, 1, -1, 5, 0);
        x.go(1);
        row(check, "taken", x, 0, 0, 0, 2, 2, 0, 2, 1, 4, 0, 0, -1, 5, 1);
        x.go(2);
        row(check, "works anew", x, 0, 0, 2, 2, 4, 0, 2, 1, 6, 0, 1, -1, 5, 1);
        x.go(2);
        row(check, "saves from the first hour", x, 0, 0, 2, 2, 4, 0, 4, 1, 8, 0, 1, -1, 5, 1);
        x.go(1);
        row(check, "saved", x, 0, 2, 0, 2, 4, 0, 5, 1, 9, 0, 1, -1, 3, 1);
    }

    private static void bringsBackAnew(Check check) {
        check.about("4 HOURS of bringing back");
        CheapHours x = new CheapHours();
        x.price(0, 0, 199, 1);
        x.price(0, 2, 2, -1);
        x.price(0, 4, 4, 2);
        x.job(4100012, 1, 1);
        x.go(2);
        row(check, "one saved", x, 0, 1, 0, 0, 1, 0, 1, 0, 2, 0, 1, -1, 4, 0);
        x.go(2);
        row(check, "bringing", x, 0, 1, 0, 0, 1, 1, 1, 1, 3, 0, 1, -1, 4, 1);
        x.go(1);
        row(check, "taken while bringing", x, 0, 1, 0, 0, 1, 1, 1, 2, 3, 0, 0, -1, 4, 2);
        x.go(2);
        row(check, "brought", x, 0, 1, 0, 0, 1, 3, 1, 2, 5, 0, 1, -1, 4, 2);
        x.go(6);
        row(check, "READY", x, 0, 4, 0, 0, 4, 3, 4, 2, 11, 0, 0, 13, 2, 2);
    }

    private static void goesToFull(Check check) {
        check.about("7 coins paid, 8 HOURS at FULL price");
        CheapHours x = new CheapHours();
        x.price(0, 0, 199, 10);
        x.job(8014022, 10, 4);
        x.go(6);
        row(check, "four saved", x, 0, 4, 0, 0, 4, 0, 2, 0, 60, 0, 1, -1, 6, 0);
        x.go(2);
        row(check, "two more", x, 0, 4, 2, 0, 6, 0, 2, 0, 80, 0, 1, -1, 6, 0);
        x.go(1);
        row(check, "at FULL", x, 0, 4, 0, 2, 6, 1, 2, 0, 180, 1, 2, -1, 6, 0);
        x.go(2);
        row(check, "works at FULL", x, 0, 5, 0, 2, 7, 2, 2, 0, 380, 3, 2, -1, 5, 0);
        x.go(3);
        row(check, "READY", x, 0, 8, 0, 2, 10, 2, 2, 0, 680, 6, 0, 14, 2, 0);
    }

    private static void beginsAnewAtFull(Check check) {
        check.about("0 SAVED, 2 LOST, at FULL price");
        CheapHours x = new CheapHours();
        x.price(0, 0, 3, 10);
        x.job(5010012, 10, 2);
        x.go(3);
        row(check, "two saved, no more than BRING", x, 0, 2, 0, 0, 2, 0, 1, 0, 30, 0, 1, -1, 5, 0);
        x.go(1);
        row(check, "one more", x, 0, 2, 1, 0, 3, 0, 1, 0, 40, 0, 1, -1, 5, 0);
        x.go(1);
        row(check, "taken", x, 0, 2, 0, 1, 3, 0, 1, 1, 40, 0, 0, -1, 5, 1);
        x.go(1);
        row(check, "begins anew", x, 0, 1, 0, 3, 4, 0, 1, 1, 140, 1, 2, -1, 5, 1);
        x.go(4);
        row(check, "READY", x, 0, 5, 0, 3, 8, 0, 1, 1, 540, 5, 0, 10, 2, 1);
        check.due("count(3)", x.count(3), 540);
    }

    private static void savesAtOnce(Check check) {
        check.about("0 SAVED, 1 done that is not SAVED");
        CheapHours x = new CheapHours();
        x.price(1, 0, 199, 0);
        x.price(1, 5, 5, 1);
        x.job(6100100, 0, 3);
        x.go(2);
        row(check, "two done", x, 0, 0, 2, 0, 2, 0, 0, 0, 0, 0, 1, -1, 6, 0);
        x.go(1);
        row(check, "saved at once", x, 0, 3, 0, 0, 3, 0, 0, 0, 0, 0, 1, -1, 3, 0);
        x.go(3);
        row(check, "taken", x, 0, 3, 0, 2, 5, 0, 0, 1, 0, 0, 0, -1, 3, 1);
        x.go(3);
        row(check, "READY", x, 0, 6, 0, 2, 8, 0, 0, 1, 0, 0, 0, 9, 0, 1);
    }

    /** NEED rises at full price when a job begins anew, and falls again: it stays there. */
    private static void isGuardedEver(Check check) {
        check.about("8 HOURS at FULL price, ever behind the first");
        CheapHours x = new CheapHours();
        x.price(0, 1, 199, 0);
        x.job(4004005, 999, 1);
        x.go(3);
        row(check, "at FULL", x, 0, 3, 0, 0, 3, 0, 0, 0, 300, 3, 2, -1, 4, 0);
        x.go(1);
        check.due("READY", x.told(0, 10), 4);
        check.due("NEED of a READY one", x.told(0, 11), 4);

        CheapHours y = new CheapHours();
        y.price(0, 0, 199, 0);
        y.job(6010040, 0, 6);
        y.go(10);
        row(check, "a save doesn't hold off FULL", y, 0, 6, 0, 4, 10, 0, 0, 0, 600, 6, 0, 10, 0, 0);
    }

    private static void tellsWhere(Check check) {
        check.about("9 whether it is on a machine of its MARKET (1), at FULL price (2), else 0");
        CheapHours x = Desks.busy();
        check.due("READY", x.told(0, 9), 0);
        check.due("at its market", x.told(1, 9), 1);
        check.due("at FULL", x.told(2, 9), 2);
        check.due("it waits", x.told(3, 9), 0);
        check.due("just come", x.job(1100000, 999, 1), 4);
        check.due("on none yet", x.told(4, 9), 0);
    }

    private static void tellsWhenItWasReady(Check check) {
        check.about("10 the HOUR behind which it was READY (NOW then; NONE)");
        CheapHours x = new CheapHours();
        x.price(0, 0, 199, 1);
        x.job(1100000, 1, 1);
        x.job(30200000, 0, 1);
        check.none("as it comes", x.told(0, 10));
        check.due("go(1)", x.go(1), 1);
        check.due("NOW then", x.told(0, 10), 1);
        x.go(198);
        check.due("NOW is 199", x.told(1, 10), -1);
        x.go(1);
        check.due("NOW is 200", x.told(1, 10), 200);
        check.due("the first one stays", x.told(0, 10), 1);
    }

    private static void tellsNeed(Check check) {
        check.about("11 NEED");
        CheapHours x = Desks.busy();
        check.due("READY, BRING 0", x.told(0, 11), 0);
        check.due("12 less 4, and BRING 1", x.told(1, 11), 9);
        check.due("at FULL: 10 less 7", x.told(2, 11), 3);
        check.due("WORK", x.told(3, 11), 5);
    }

    private static void knowsItsWhats(Check check) {
        check.about("NONE for others");
        Edges.argument(check, Desks::busy, (x, what) -> x.told(0, what), 0, 12);
        for (int job = 0; job < 12; job++) {
            int one = job;
            Edges.refused(check, "told(" + one + ", 13)", x -> x.told(one, 13));
            Edges.refused(check, "told(" + one + ", -1)", x -> x.told(one, -1));
        }
    }

    private static void knowsItsJobs(Check check) {
        check.about("NONE if there is none such");
        for (int what = 0; what <= 12; what++) {
            int asked = what;
            Edges.refusedOn(check, "no job came", CheapHours::new, x -> x.told(0, asked));
            Edges.refusedOn(check, "four came", Desks::busy, x -> x.told(4, asked));
            Edges.refusedOn(check, "twelve came", Desks::crowded, x -> x.told(12, asked));
        }
        Edges.argument(check, Desks::crowded, (x, job) -> x.told(job, 0), 0, 11);
    }

    /** A desk is asked no more than its 512 calls: in some hours one of its jobs is asked. */
    private static void asTheModel(Check check) {
        check.about("as a second way to the same answers says");
        Dice dice = new Dice(6);
        for (int run = 0; run < 900; run++) {
            CheapHours x = new CheapHours();
            int full = dice.roll(1, 999);
            x.full(full);
            int[][] prices = Markets.throwPrices(dice, x, 60);
            JobModel[] models = new JobModel[12];
            int jobs = 0;
            int asked = dice.roll(3, 8);
            for (int hour = 0; hour < 60; hour++) {
                while (jobs < 12 && dice.oneIn(3)) {
                    int what = what(dice, hour);
                    int bid = dice.roll(0, 9);
                    int span = dice.roll(1, 12);
                    check.due("job", x.job(what, bid, span), jobs);
                    models[jobs++] = new JobModel(what, bid, span, full);
                }
                x.go(1);
                passed(models, jobs, hour, prices);
                if (jobs > 0 && hour % asked == 0) {
                    asked(check, x, models, dice.roll(0, jobs - 1));
                }
            }
            summed(check, x, models, jobs);
        }
    }

    private static int what(Dice dice, int now) {
        int work = dice.roll(1, 20);
        int due = now + work + dice.roll(0, 40);
        return work * 1000000 + due * 1000 + dice.roll(0, 2) * 100 + dice.roll(0, 5) * 10
                + dice.roll(0, 5);
    }

    private static void passed(JobModel[] models, int jobs, int hour, int[][] prices) {
        for (int i = 0; i < jobs; i++) {
            models[i].hour(hour, prices[models[i].market][hour]);
        }
    }

    private static void asked(Check check, CheapHours x, JobModel[] models, int job) {
        for (int what = 0; what <= 12; what++) {
            check.due(models[job].log + ": " + NAMES[what], x.told(job, what), models[job].tell(what));
        }
    }

    private static void summed(Check check, CheapHours x, JobModel[] models, int jobs) {
        int coins = 0;
        int ready = 0;
        for (int i = 0; i < jobs; i++) {
            coins += models[i].tell(7);
            ready += models[i].tell(10) == -1 ? 0 : 1;
            if (models[i].due <= 60) {
                check.yes("READY as DUE begins", x.told(i, 10) != -1 && x.told(i, 10) <= models[i].due);
            }
        }
        check.due("count(3)", x.count(3), coins);
        check.due("count(2)", x.count(2), ready);
    }
}
