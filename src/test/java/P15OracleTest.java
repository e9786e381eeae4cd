/** Promise 15: oracle, against values by hand and against all that one can do. */
public final class P15OracleTest {
    public static void main(String[] args) {
        Check check = new Check("promise 15");
        needsNoSaveAtTheEnd(check);
        savesToLeave(check);
        bringsBackOrBeginsAnew(check);
        looksAtPricesAsTheyAre(check);
        beginsAsItCame(check);
        takesTheGreatest(check);
        tellsOfAnyJob(check);
        knowsItsJobs(check);
        againstModel(check, new Dice(15), 400, 24, 9);
        againstModel(check, new Dice(16), 6, 60, 20);
        check.end();
    }

    private static void needsNoSaveAtTheEnd(Check check) {
        check.about("What the ORACLE tells: no save at the end");
        CheapHours x = new CheapHours();
        x.price(1, 4, 6, 3);
        x.price(1, 7, 199, 50);
        x.job(3100052, 0, 1);
        check.due("whatever its BID and MARKET", x.oracle(0), 9);
        x.job(3007052, 0, 1);
        check.due("ready as DUE begins", x.oracle(1), 9);
        x.job(3006052, 0, 1);
        check.due("too late for the third, and no time to save", x.oracle(2), 300);
        x.job(2002052, 0, 1);
        check.due("at FULL", x.oracle(3), 200);
    }

    /** Four cheap hours, then none: a save must fit in, and bringing back is paid, too. */
    private static void savesToLeave(Check check) {
        check.about("What the ORACLE tells: saves");
        CheapHours x = new CheapHours();
        x.price(0, 0, 3, 1);
        x.price(0, 10, 13, 2);
        x.job(5020011, 0, 9);
        // three hours and a save at 1, bringing back and two hours at 2
        check.due("SAVE 1, BRING 1", x.oracle(0), 10);
        x.job(4020001, 0, 9);
        check.due("SAVE 0, BRING 1: four hours at 1", x.oracle(1), 4);
        x.job(6020000, 0, 9);
        check.due("SAVE 0, BRING 0", x.oracle(2), 8);
        x.job(6020010, 0, 9);
        // three and a save at 1, three at 2
        check.due("SAVE 1, BRING 0", x.oracle(3), 10);
        x.job(7020020, 0, 9);
        // two and a save of two at 1, one and a save of two at FULL, four at 2
        check.due("SAVE 2, BRING 0: saved at FULL, too", x.oracle(4), 312);
    }

    private static void bringsBackOrBeginsAnew(Check check) {
        check.about("What the ORACLE tells: bringing back");
        CheapHours x = new CheapHours();
        x.full(50);
        x.price(0, 0, 1, 0);
        x.price(0, 5, 9, 10);
        x.job(3010015, 0, 9);
        check.due("begins anew: BRING is dearer", x.oracle(0), 30);
        x.job(3010011, 0, 9);
        check.due("brings back: like dear", x.oracle(1), 30);
        x.job(3010010, 0, 9);
        check.due("nothing to bring", x.oracle(2), 20);
    }

    private static void looksAtPricesAsTheyAre(Check check) {
        check.about("with PRICES as they are NOW");
        CheapHours x = new CheapHours();
        x.job(2010000, 0, 1);
        check.due("nothing is let", x.oracle(0), 200);
        x.price(2, 3, 3, 4);
        check.due("one hour", x.oracle(0), 104);
        x.go(2);
        x.price(2, 5, 5, 5);
        check.due("two hours", x.oracle(0), 9);
        x.go(20);
        check.due("behind DUE", x.oracle(0), 9);
        x.price(2, 30, 199, 0);
        check.due("prices behind DUE", x.oracle(0), 9);
    }

    private static void tellsOfAnyJob(Check check) {
        check.about("What the ORACLE tells of a JOB, whatever has become of it");
        CheapHours x = Desks.busy();
        check.due("READY: two at 3", x.oracle(0), 6);
        check.due("at its market: twelve at 3", x.oracle(1), 36);
        check.due("at FULL: ten at 3", x.oracle(2), 30);
        check.due("it waits: five at 3", x.oracle(3), 15);
        x.go(200);
        check.due("READY", x.oracle(0), 6);
        check.due("READY", x.oracle(1), 36);
        check.due("READY", x.oracle(2), 30);
        check.due("READY", x.oracle(3), 15);
    }

    private static void beginsAsItCame(Check check) {
        check.about("of a JOB, as it came");
        CheapHours x = new CheapHours();
        x.price(0, 0, 4, 1);
        x.price(0, 5, 199, 7);
        x.go(3);
        x.job(4050000, 9, 1);
        check.due("from 3", x.oracle(0), 16);
        x.go(30);
        check.due("as it came", x.oracle(0), 16);
    }

    private static void takesTheGreatest(Check check) {
        check.about("What the ORACLE tells: the greatest there can be");
        CheapHours x = new CheapHours();
        x.price(2, 100, 130, 1);
        x.price(2, 170, 199, 2);
        x.job(30200055, 0, 1);
        check.due("30 hours in a row", x.oracle(0), 30);
        x.job(30200000, 0, 1);
        check.due("30 hours, all saved", x.oracle(1), 30);
        x.job(30129055, 0, 1);
        // six hours and a save of five at FULL, then five of bringing back and 24 of work at 1
        check.due("one hour short", x.oracle(2), 1129);
        CheapHours dear = new CheapHours();
        dear.full(999);
        dear.job(30200255, 999, 60);
        check.due("at the greatest FULL", dear.oracle(0), 29970);
    }

    private static void knowsItsJobs(Check check) {
        check.about("NONE if there is none such");
        Edges.argument(check, Desks::crowded, (x, job) -> x.oracle(job), 0, 11);
        for (int job = 0; job < 12; job++) {
            int one = job;
            Edges.refusedOn(check, "no job came", CheapHours::new, x -> x.oracle(one));
        }
        Edges.refusedOn(check, "four came", Desks::busy, x -> x.oracle(4));
        Edges.refusedOn(check, "twelve came", Desks::crowded, x -> x.oracle(12));
        CheapHours x = new CheapHours();
        check.none("a job that doesn't come", x.job(1000000, 0, 1));
        check.none("oracle", x.oracle(0));
    }

    private static void againstModel(Check check, Dice dice, int runs, int most, int mostWork) {
        check.about("as a second way to the same answers says");
        for (int run = 0; run < runs; run++) {
            CheapHours x = new CheapHours();
            int full = dice.roll(1, 20);
            x.full(full);
            int hours = dice.roll(4, most);
            int[][] prices = Markets.throwPrices(dice, x, hours);
            int came = dice.roll(0, 2);
            x.go(came);
            for (int job = 0; job < 4; job++) {
                int due = dice.roll(came + 1, hours);
                int work = dice.roll(1, Math.min(mostWork, due - came));
                int what = work * 1000000 + due * 1000 + dice.roll(0, 5) * 10 + dice.roll(0, 5);
                x.job(what, 0, 1);
                check.due("run " + run + ", job " + what, x.oracle(job),
                        new OracleModel(prices, full, what).least(came));
            }
        }
    }
}
