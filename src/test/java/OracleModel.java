import java.util.HashMap;
import java.util.Map;

/** The oracle by trying all that one can do in each hour, idle hours and given-up saves too. */
final class OracleModel {
    private static final int NEVER = 1000000;
    private static final int NOWHERE = 4;
    private final int[][] prices;
    private final int full;
    private final int work;
    private final int due;
    private final int save;
    private final int bring;
    private final Map<Long, Integer> known = new HashMap<>();

    /** prices[market][hour], -1 where nothing is let. */
    OracleModel(int[][] prices, int full, int what) {
        this.prices = prices;
        this.full = full;
        work = what / 1000000;
        due = what / 1000 % 1000;
        save = what / 10 % 10;
        bring = what % 10;
    }

    int least(int came) {
        return from(came, NOWHERE, 0, 0, 0, 0);
    }

    private int from(int hour, int place, int saved, int done, int bringLeft, int saveDone) {
        if (done == work) {
            return 0;
        }
        if (hour == due) {
            return NEVER;
        }
        long key = ((((hour * 5L + place) * 31 + saved) * 31 + done) * 6 + bringLeft) * 6 + saveDone;
        Integer before = known.get(key);
        if (before != null) {
            return before;
        }
        int best = from(hour + 1, NOWHERE, saved, saved, 0, 0);
        for (int to = 0; to < NOWHERE; to++) {
            int price = to == 3 ? full : prices[to][hour];
            if (price == -1) {
                continue;
            }
            int rest;
            if (to == place) {
                rest = hourOn(hour, to, saved, done, bringLeft, saveDone);
            } else {
                rest = Math.min(hourOn(hour, to, saved, saved, saved > 0 ? bring : 0, 0),
                        hourOn(hour, to, 0, 0, 0, 0));
            }
            best = Math.min(best, price + rest);
        }
        known.put(key, best);
        return best;
    }

    private int hourOn(int hour, int place, int saved, int done, int bringLeft, int saveDone) {
        int idle = from(hour + 1, place, saved, done, bringLeft, 0);
        if (bringLeft > 0) {
            return Math.min(idle, from(hour + 1, place, saved, saved, bringLeft - 1, 0));
        }
        int kept = save == 0 ? done + 1 : saved;
        int best = Math.min(idle, from(hour + 1, place, kept, done + 1, 0, 0));
        if (save > 0) {
            int now = saveDone + 1;
            best = Math.min(best, now == save ? from(hour + 1, place, done, done, 0, 0)
                    : from(hour + 1, place, saved, done, 0, now));
        }
        return best;
    }
}
