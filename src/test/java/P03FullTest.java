/** Promise 3: full. */
public final class P03FullTest {
    public static void main(String[] args) {
        Check check = new Check("promise 3");
        CheapHours x = new CheapHours();
        check.yes("full(1)", x.full(1));
        check.due("count(5)", x.count(5), 1);
        check.yes("full(999)", x.full(999));
        check.no("full(0)", x.full(0));
        check.no("full(-1)", x.full(-1));
        check.no("full(1000)", x.full(1000));
        check.due("count(5)", x.count(5), 999);
        x.go(0);
        check.yes("full(30), NOW being 0", x.full(30));
        check.none("no job", x.job(1000000, 0, 1));
        check.yes("full(31), no job came", x.full(31));
        x.job(2002000, 0, 1);
        check.no("full, a job came", x.full(5));
        check.due("oracle", x.oracle(0), 62);
        x.go(2);
        check.due("paid", x.told(0, 7), 62);
        check.due("count(5)", x.count(5), 31);

        CheapHours late = new CheapHours();
        late.go(1);
        check.no("full, NOW being 1", late.full(5));
        check.due("count(5)", late.count(5), 100);
        changesTheTable(check);
        check.end();
    }

    private static void changesTheTable(Check check) {
        CheapHours x = new CheapHours();
        x.levels(1);
        x.level(0, 50, 0);
        check.due("table", x.table(1, 1, 0), 500);
        check.due("rule", x.rule(1, 1, 0), 1);
        x.full(40);
        check.due("table at the new FULL", x.table(1, 1, 0), 400);
        check.due("rule at the new FULL", x.rule(1, 1, 0), 2);
        check.due("worst at the new FULL", x.worst(1, 1, 0), 40);
        check.due("capped at the new FULL", x.capped(1, 1, 0, 49), 400);
    }
}
