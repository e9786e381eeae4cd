/** Promise 16: count. */
public final class P16CountTest {
    public static void main(String[] args) {
        Check check = new Check("promise 16");
        CheapHours x = new CheapHours();
        x.full(7);
        x.levels(4);
        x.price(0, 0, 199, 3);
        x.job(2100000, 3, 1);
        x.job(4100000, 3, 1);
        x.job(3003000, 0, 1);
        x.go(2);
        int[] dues = {2, 3, 1, 6 + 6 + 14, 4, 7};
        for (int what = 0; what < dues.length; what++) {
            check.due("count(" + what + ")", x.count(what), dues[what]);
        }
        x.go(98);
        check.due("NOW", x.count(0), 100);
        check.due("READY ones", x.count(2), 3);
        check.due("all coins", x.count(3), 6 + 12 + 21);
        for (int what : new int[] {-1, 6, 7, Integer.MAX_VALUE, Integer.MIN_VALUE}) {
            check.none("count(" + what + ")", x.count(what));
        }
        check.end();
    }
}
