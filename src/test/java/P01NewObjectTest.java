/** Promise 1: no jobs, nothing is let, no levels; NOW is 0 and FULL 100. */
public final class P01NewObjectTest {
    public static void main(String[] args) {
        Check check = new Check("promise 1");
        CheapHours x = new CheapHours();
        int[] counts = {0, 0, 0, 0, 0, 100};
        for (int i = 0; i < counts.length; i++) {
            check.due("count(" + i + ")", x.count(i), counts[i]);
        }
        check.none("told(0, 0)", x.told(0, 0));
        check.none("oracle(0)", x.oracle(0));
        check.none("table(0, 0, 0)", x.table(0, 0, 0));
        check.none("rule(0, 0, 0)", x.rule(0, 0, 0));
        check.none("worst(0, 0, 0)", x.worst(0, 0, 0));
        check.none("capped(0, 0, 0, 0)", x.capped(0, 0, 0, 0));
        check.no("level(0, 0, 0)", x.level(0, 0, 0));
        for (int market = 0; market < 3; market++) {
            check.due("job", x.job(1200000 + market * 100, 999, 1), market);
            check.due("oracle", x.oracle(market), 100);
        }
        x.go(199);
        for (int market = 0; market < 3; market++) {
            check.due("waited", x.told(market, 6), 199);
            check.due("paid", x.told(market, 7), 0);
        }
        check.due("NONE", CheapHours.NONE, -1);
        check.end();
    }
}
