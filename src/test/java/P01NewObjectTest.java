/** Promise 1: no jobs, nothing is let, no levels. */
public final class P01NewObjectTest {
    public static void main(String[] args) {
        Check check = new Check("promise 1");
        hasNoJobs(check);
        letsNothing(check);
        hasNoLevels(check);
        sharesNothing(check);
        check.end();
    }

    private static void hasNoJobs(Check check) {
        check.about("No JOBS");
        CheapHours x = new CheapHours();
        check.due("JOBS", x.count(1), 0);
        check.due("READY ones", x.count(2), 0);
        check.due("all coins", x.count(3), 0);
        for (int job = 0; job <= 12; job++) {
            check.none("told(" + job + ", 0)", x.told(job, 0));
            check.none("oracle(" + job + ")", x.oracle(job));
        }
        check.due("NOW passes all the same", x.go(200), 200);
        check.due("all coins", x.count(3), 0);
    }

    private static void letsNothing(Check check) {
        check.about("nothing is let");
        for (int market = 0; market < 3; market++) {
            CheapHours x = new CheapHours();
            check.due("job", x.job(1200000 + market * 100, 999, 1), 0);
            check.due("the oracle has FULL alone", x.oracle(0), 100);
            x.go(199);
            check.due("WAITED in 0 .. 198", x.told(0, 6), 199);
            check.due("paid", x.told(0, 7), 0);
            x.go(1);
            check.due("paid at FULL in 199", x.told(0, 7), 100);
        }
    }

    private static void hasNoLevels(Check check) {
        check.about("no LEVELS");
        CheapHours x = new CheapHours();
        check.due("LEVELS", x.count(4), 0);
        for (int one = 0; one < 6; one++) {
            check.no("level(" + one + ", 0, 0)", x.level(one, 0, 0));
            check.none("table(0, 0, " + one + ")", x.table(0, 0, one));
            check.none("rule(0, 0, " + one + ")", x.rule(0, 0, one));
            check.none("worst(0, 0, " + one + ")", x.worst(0, 0, one));
            check.none("capped(0, 0, " + one + ", 0)", x.capped(0, 0, one, 0));
        }
    }

    /** What is done on one desk, nothing of it is seen on another. */
    private static void sharesNothing(Check check) {
        check.about("A new object");
        String untouched = Later.answers(new CheapHours());
        CheapHours before = new CheapHours();
        CheapHours other = Desks.busy();
        other.table(5, 3, 1);
        other.oracle(1);
        check.same("made before", Later.answers(before), untouched);
        check.same("made behind", Later.answers(new CheapHours()), untouched);
        check.same("the other one", Later.answers(other), Later.answers(Desks.busy()));
    }
}
