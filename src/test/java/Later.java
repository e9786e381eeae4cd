/** All that a desk says and does behind a moment, as one text; some 400 calls at most. */
final class Later {
    private Later() {
    }

    static String answers(CheapHours x) {
        StringBuilder all = new StringBuilder();
        counts(all, x);
        jobs(all, x, 12);
        table(all, x);
        all.append(" full ").append(x.full(77));
        newJobs(all, x);
        hours(all, x);
        jobs(all, x, 1);
        counts(all, x);
        newLevels(all, x);
        return all.toString();
    }

    private static void counts(StringBuilder all, CheapHours x) {
        all.append(" counts");
        for (int what = 0; what < 6; what++) {
            all.append(' ').append(x.count(what));
        }
    }

    private static void jobs(StringBuilder all, CheapHours x, int mostWhat) {
        for (int job = 0; job < x.count(1); job++) {
            all.append(" job ").append(job).append(": ").append(x.oracle(job));
            for (int what = 0; what <= mostWhat; what++) {
                all.append(' ').append(x.told(job, what));
            }
        }
    }

    private static void table(StringBuilder all, CheapHours x) {
        all.append(" table");
        for (int i = 0; i < 4; i++) {
            for (int w = 1; w <= 4; w++) {
                all.append(' ').append(x.table(4, w, i)).append(' ').append(x.rule(4, w, i));
                all.append(' ').append(x.worst(4, w, i)).append(' ').append(x.capped(4, w, i, 15));
            }
        }
    }

    /** One at each market, at any price: they tell what is asked in the hours to come. */
    private static void newJobs(StringBuilder all, CheapHours x) {
        all.append(" new jobs");
        for (int market = 0; market < 3; market++) {
            int number = x.job(30200050 + market * 100, 999, 60);
            all.append(' ').append(number).append(' ').append(x.oracle(number));
        }
    }

    private static void hours(StringBuilder all, CheapHours x) {
        all.append(" hours");
        for (int i = 0; i < 12; i++) {
            all.append(' ').append(x.go(i < 8 ? 1 : 30)).append(' ').append(x.count(3));
        }
        all.append(' ').append(x.go(200)).append(' ').append(x.count(3));
    }

    private static void newLevels(StringBuilder all, CheapHours x) {
        all.append(" level ").append(x.level(1, 50, 19)).append(' ').append(x.table(3, 2, 1));
        all.append(" levels ").append(x.levels(2)).append(' ').append(x.table(3, 2, 1));
    }
}
