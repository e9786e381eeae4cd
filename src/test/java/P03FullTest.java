/** Promise 3: full. */
public final class P03FullTest {
    public static void main(String[] args) {
        Check check = new Check("promise 3");
        isThat(check);
        knowsItsPrices(check);
        comesBeforeHours(check);
        comesBeforeJobs(check);
        changesTheTable(check);
        check.end();
    }

    private static void isThat(Check check) {
        check.about("FULL: true");
        for (int price : new int[] {1, 2, 100, 998, 999}) {
            CheapHours x = new CheapHours();
            x.full(500);
            check.yes("full(" + price + ")", x.full(price));
            check.due("FULL", x.count(5), price);
            x.job(3003000, 0, 1);
            check.due("the oracle pays it", x.oracle(0), 3 * price);
            x.go(3);
            check.due("a job pays it", x.told(0, 7), 3 * price);
        }
    }

    private static void knowsItsPrices(Check check) {
        check.about("false if it can't be");
        Edges.argument(check, CheapHours::new, (x, price) -> Edges.asked(x.full(price)), 1, 999);
        Edges.refused(check, "NONE", x -> Edges.asked(x.full(CheapHours.NONE)));
    }

    private static void comesBeforeHours(Check check) {
        check.about("false if NOW isn't 0");
        for (int now : new int[] {1, 2, 199, 200}) {
            Edges.refusedOn(check, "NOW " + now, () -> at(now), x -> Edges.asked(x.full(5)));
            check.due("FULL stays", at(now).count(5), 60);
        }
        CheapHours x = at(0);
        check.yes("go(0) passes no hour", x.full(5));
        x.go(201);
        check.yes("a refused go passes none", x.full(6));
        check.due("FULL", x.count(5), 6);
    }

    private static CheapHours at(int now) {
        CheapHours x = new CheapHours();
        x.full(60);
        x.go(now);
        return x;
    }

    private static void comesBeforeJobs(Check check) {
        check.about("false if JOBS came");
        Edges.refusedOn(check, "one came", P03FullTest::withAJob, x -> Edges.asked(x.full(5)));
        CheapHours x = withAJob();
        check.no("full", x.full(5));
        check.due("FULL", x.count(5), 31);
        check.due("oracle", x.oracle(0), 62);
        x.go(2);
        check.due("paid", x.told(0, 7), 62);
        check.no("it is READY", x.full(5));
        CheapHours none = new CheapHours();
        check.none("a job that doesn't come", none.job(1000000, 0, 1));
        check.yes("full", none.full(31));
    }

    private static CheapHours withAJob() {
        CheapHours x = new CheapHours();
        x.full(31);
        x.job(2002000, 0, 1);
        return x;
    }

    private static void changesTheTable(Check check) {
        check.about("FULL, in the table too");
        CheapHours x = new CheapHours();
        x.levels(1);
        x.level(0, 50, 0);
        check.due("table", x.table(1, 1, 0), 500);
        check.due("rule", x.rule(1, 1, 0), 1);
        x.full(40);
        check.due("table at the new FULL", x.table(1, 1, 0), 400);
        check.due("rule at the new FULL", x.rule(1, 1, 0), 2);
        check.due("worst at the new FULL", x.worst(1, 1, 0), 40);
        check.due("capped at the new FULL", x.capped(1, 1, 0, 49), 400);
        x.full(0);
        check.due("a refused one changes nothing", x.table(1, 1, 0), 400);
    }
}
