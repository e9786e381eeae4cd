import java.util.Arrays;

/**
 * A desk for cheap hours: jobs run on machines that are let at prices that jump, are saved now and
 * then, and go over to full price at the last hour at which they still come in time.
 */
public final class CheapHours {
    public static final int NONE = -1;

    private static final int HOURS = 200;
    private static final int MARKETS = 3;
    private static final int MOST_PRICE = 999;
    private static final int MOST_JOBS = 12;

    private final Prices prices;
    private final Job[] jobs;
    private final Plan plan;
    private final Hindsight hindsight;
    private int jobCount;
    private int now;

    public CheapHours() {
        prices = new Prices();
        jobs = new Job[MOST_JOBS];
        plan = new Plan(prices);
        hindsight = new Hindsight(prices);
    }

    public boolean price(int market, int from, int to, int price) {
        if (!within(market, 0, MARKETS - 1) || !within(price, NONE, MOST_PRICE)) {
            return false;
        }
        if (from < now || from > to || to >= HOURS) {
            return false;
        }
        prices.put(market, from, to, price);
        return true;
    }

    public boolean full(int price) {
        if (!within(price, 1, MOST_PRICE) || now != 0 || jobCount != 0) {
            return false;
        }
        prices.atFull = price;
        plan.forget();
        return true;
    }

    public int job(int what, int bid, int span) {
        int number = jobCount;
        if (!within(number, 0, jobs.length - 1)) {
            return NONE;
        }
        Terms terms = new Terms(what, bid, span, now);
        if (!terms.canBe()) {
            return NONE;
        }
        jobs[number] = new Job(terms);
        jobCount = number + 1;
        return number;
    }

    public int go(int n) {
        if (!within(n, 0, HOURS)) {
            return NONE;
        }
        int end = Math.min(HOURS, now + n);
        for (int hour = now; hour < end; hour++) {
            passHour(hour);
        }
        now = end;
        return now;
    }

    public int told(int job, int what) {
        Job one = jobOf(job);
        return one == null ? NONE : one.tell(what);
    }

    public int span(int work, int save, int q) {
        return Losses.canBe(work, save, q) ? Losses.bestSpan(work, save, q) : NONE;
    }

    public long mean(int work, int save, int q, int span, int what) {
        if (!Losses.canBe(work, save, q) || !within(span, 1, work) || !within(what, 0, 1)) {
            return NONE;
        }
        long below = Losses.power(q - 1, span + save);
        long above = Losses.above(work, save, q, span, span + save);
        long common = Losses.commonDivisor(above, below);
        if (common <= 0) {
            return NONE;
        }
        return (what == 0 ? above : below) / common;
    }

    public boolean levels(int n) {
        if (!within(n, 1, Plan.MOST_LEVELS)) {
            return false;
        }
        plan.startAnew(n);
        return true;
    }

    public boolean level(int level, int price, int chances) {
        if (!plan.has(level) || !within(price, 0, MOST_PRICE) || !plan.canGo(chances)) {
            return false;
        }
        plan.setLevel(level, price, chances);
        return true;
    }

    public long table(int hours, int work, int level) {
        return plan.hasState(hours, work, level) ? plan.meanOf(hours, work, level) : NONE;
    }

    public int rule(int hours, int work, int level) {
        return plan.hasState(hours, work, level) ? plan.ruleOf(hours, work, level) : NONE;
    }

    public int worst(int hours, int work, int level) {
        return plan.hasState(hours, work, level) ? plan.greatestOf(hours, work, level) : NONE;
    }

    public long capped(int hours, int work, int level, int c) {
        if (!plan.hasState(hours, work, level) || !within(c, 0, MOST_PRICE)) {
            return NONE;
        }
        return plan.meanCapped(hours, work, level, c);
    }

    public int oracle(int job) {
        Job one = jobOf(job);
        return one == null ? NONE : hindsight.leastSum(one.terms);
    }

    public int count(int what) {
        switch (what) {
            case 0:
                return now;
            case 1:
                return jobCount;
            case 2:
                return readyJobs();
            case 3:
                return allPaid();
            case 4:
                return plan.size;
            case 5:
                return prices.atFull;
            default:
                return NONE;
        }
    }

    private void passHour(int hour) {
        for (int i = 0; i < jobCount; i++) {
            Job one = jobOf(i);
            if (one != null) {
                one.passHour(hour, prices);
            }
        }
    }

    private int readyJobs() {
        int ready = 0;
        for (int i = 0; i < jobCount; i++) {
            Job one = jobOf(i);
            if (one != null && one.isReady()) {
                ready++;
            }
        }
        return ready;
    }

    private int allPaid() {
        int coins = 0;
        for (int i = 0; i < jobCount; i++) {
            Job one = jobOf(i);
            if (one != null) {
                coins += one.paid;
            }
        }
        return coins;
    }

    private Job jobOf(int number) {
        return within(number, 0, jobs.length - 1) ? jobs[number] : null;
    }

    private static boolean within(int value, int least, int most) {
        return value >= least && value <= most;
    }

    /** What a machine costs in each hour, at each market and at full price. */
    private static final class Prices {
        /** Stands behind the markets, so that a plan can count all places where machines are. */
        static final int FULL_PLACE = MARKETS;

        private final int[] let;
        int atFull;

        Prices() {
            let = new int[MARKETS * HOURS];
            Arrays.fill(let, NONE);
            atFull = 100;
        }

        void put(int market, int from, int to, int price) {
            for (int hour = from; hour <= to && hour < HOURS; hour++) {
                if (isLetHour(market, hour)) {
                    let[market * HOURS + hour] = price;
                }
            }
        }

        int at(int place, int hour) {
            if (place == FULL_PLACE) {
                return atFull;
            }
            return isLetHour(place, hour) ? let[place * HOURS + hour] : NONE;
        }

        private static boolean isLetHour(int market, int hour) {
            return within(market, 0, MARKETS - 1) && within(hour, 0, HOURS - 1);
        }
    }

    /** A job as it came; nothing of this changes as hours pass. */
    private static final class Terms {
        static final int MOST_WORK = 30;

        final int work;
        final int due;
        final int market;
        final int save;
        final int bring;
        final int bid;
        final int span;
        final int came;

        Terms(int what, int bid, int span, int came) {
            work = what / 1000000;
            due = what / 1000 % 1000;
            market = what / 100 % 10;
            save = what / 10 % 10;
            bring = what % 10;
            this.bid = bid;
            this.span = span;
            this.came = came;
        }

        boolean canBe() {
            return within(work, 1, MOST_WORK) && within(due, 0, HOURS)
                    && within(market, 0, MARKETS - 1)
                    && within(save, 0, 5) && within(bring, 0, 5)
                    && within(bid, 0, MOST_PRICE) && within(span, 1, 60)
                    && work <= due - came;
        }
    }

    /** How far a job is, and what it has cost. */
    private static final class Job {
        private static final int NOWHERE = 0;
        private static final int AT_MARKET = 1;
        private static final int AT_FULL = 2;

        final Terms terms;
        int paid;
        private int saved;
        private int unsaved;
        private int lost;
        private int workHours;
        private int bringHours;
        private int saveHours;
        private int waitHours;
        private int fullHours;
        private int place;
        private int readyAt;
        private int taken;
        private boolean guarded;
        private int bringLeft;
        private int saveLeft;

        Job(Terms terms) {
            this.terms = terms;
            place = NOWHERE;
            readyAt = NONE;
        }

        boolean isReady() {
            return readyAt != NONE;
        }

        int tell(int what) {
            switch (what) {
                case 0:
                    return saved;
                case 1:
                    return unsaved;
                case 2:
                    return lost;
                case 3:
                    return workHours;
                case 4:
                    return bringHours;
                case 5:
                    return saveHours;
                case 6:
                    return waitHours;
                case 7:
                    return paid;
                case 8:
                    return fullHours;
                case 9:
                    return place;
                case 10:
                    return readyAt;
                case 11:
                    return need();
                case 12:
                    return taken;
                default:
                    return NONE;
            }
        }

        void passHour(int hour, Prices prices) {
            if (isReady()) {
                return;
            }
            guarded = guarded || terms.due - hour <= need();
            int asked = prices.at(terms.market, hour);
            if (guarded) {
                passAtFull(prices.atFull);
            } else if (asked == NONE || asked > terms.bid) {
                passWaiting();
            } else {
                passAtMarket(asked);
            }
            if (saved >= terms.work) {
                readyAt = hour + 1;
                place = NOWHERE;
            }
        }

        private int need() {
            return saved > terms.bring ? terms.work - saved + terms.bring : terms.work;
        }

        private void passAtFull(int price) {
            if (place != AT_FULL) {
                comeToFull();
            }
            paid += price;
            fullHours++;
            if (bringLeft > 0) {
                bringOn();
            } else {
                workHours++;
                saved++;
            }
        }

        private void comeToFull() {
            loseUnsaved();
            place = AT_FULL;
            if (saved > terms.bring) {
                bringLeft = terms.bring;
            } else {
                lost += saved;
                saved = 0;
            }
        }

        private void passWaiting() {
            if (place == AT_MARKET) {
                taken++;
                loseUnsaved();
                place = NOWHERE;
            }
            waitHours++;
        }

        private void passAtMarket(int price) {
            if (place != AT_MARKET) {
                place = AT_MARKET;
                bringLeft = saved > 0 ? terms.bring : 0;
            }
            paid += price;
            if (bringLeft > 0) {
                bringOn();
            } else if (saveLeft > 0) {
                saveOn();
            } else {
                workOn();
            }
        }

        private void bringOn() {
            bringLeft--;
            bringHours++;
        }

        private void saveOn() {
            saveLeft--;
            saveHours++;
            if (saveLeft == 0) {
                keepAll();
            }
        }

        private void workOn() {
            workHours++;
            unsaved++;
            if (unsaved < terms.span && saved + unsaved < terms.work) {
                return;
            }
            saveLeft = terms.save;
            if (saveLeft == 0) {
                keepAll();
            }
        }

        private void keepAll() {
            saved += unsaved;
            unsaved = 0;
        }

        private void loseUnsaved() {
            lost += unsaved;
            unsaved = 0;
            bringLeft = 0;
            saveLeft = 0;
        }
    }

    /** The span between saves when machines are lost by chance, in whole numbers alone. */
    private static final class Losses {
        private static final int MOST_STEPS = 200;

        private Losses() {
        }

        static boolean canBe(int work, int save, int q) {
            return within(work, 1, 10) && within(save, 0, 2) && within(q, 2, 10);
        }

        /** All spans are laid on the one line of the longest try: no product of two means is needed. */
        static int bestSpan(int work, int save, int q) {
            int best = 1;
            long least = above(work, save, q, 1, work + save);
            for (int span = 2; span <= work; span++) {
                long hours = above(work, save, q, span, work + save);
                if (hours < least) {
                    least = hours;
                    best = span;
                }
            }
            return best;
        }

        /** The mean hours in parts of q - 1 to the power of 'line'. */
        static long above(int work, int save, int q, int span, int line) {
            long sum = 0;
            int left = work;
            for (int i = 0; i < work && left > 0; i++) {
                int piece = Math.min(span, left);
                int hours = piece + save;
                long won = power(q - 1, hours);
                sum += q * (power(q, hours) - won) * power(q - 1, line - hours);
                left -= piece;
            }
            return sum;
        }

        static long power(int base, int times) {
            long product = 1;
            for (int i = 0; i < times; i++) {
                product *= base;
            }
            return product;
        }

        static long commonDivisor(long one, long other) {
            long a = one;
            long b = other;
            for (int i = 0; i < MOST_STEPS && b != 0; i++) {
                long rest = a % b;
                a = b;
                b = rest;
            }
            return a;
        }
    }

    /** The levels, and what is best by their chances in each state. */
    private static final class Plan {
        static final int MOST_LEVELS = 6;
        private static final int MOST_HOURS = 12;
        private static final int SURE = 10;
        private static final int WAIT = 0;
        private static final int AT_PRICE = 1;
        private static final int AT_FULL = 2;
        private static final int STATES = (MOST_HOURS + 1) * (MOST_HOURS + 1) * MOST_LEVELS;

        int size;
        private boolean known;
        private final Prices prices;
        private final int[] asked;
        private final int[] chance;
        private final long[] mean;
        private final int[] choice;
        private final int[] greatest;
        private final long[] meanByCap;

        Plan(Prices prices) {
            this.prices = prices;
            asked = new int[MOST_LEVELS];
            chance = new int[MOST_LEVELS * MOST_LEVELS];
            mean = new long[STATES];
            choice = new int[STATES];
            greatest = new int[STATES];
            meanByCap = new long[STATES];
        }

        /** FULL may change while no job has come: what the table says then holds no more. */
        void forget() {
            known = false;
        }

        void startAnew(int n) {
            size = n;
            for (int i = 0; i < n; i++) {
                setLevel(i, 0, 0);
            }
        }

        boolean has(int one) {
            return within(one, 0, size - 1);
        }

        boolean hasState(int hours, int work, int one) {
            return within(hours, 0, MOST_HOURS) && within(work, 0, hours) && has(one);
        }

        boolean canGo(int chances) {
            if (chances < 0) {
                return false;
            }
            int rest = chances;
            int sum = 0;
            for (int i = 0; i < size; i++) {
                sum += rest % 10;
                rest /= 10;
            }
            return rest == 0 && sum <= SURE;
        }

        void setLevel(int one, int price, int chances) {
            if (!within(one, 0, MOST_LEVELS - 1)) {
                return;
            }
            asked[one] = price;
            int rest = chances;
            int left = SURE;
            int row = one * MOST_LEVELS;
            for (int next = 0; next < MOST_LEVELS; next++) {
                chance[row + next] = rest % 10;
                left -= rest % 10;
                rest /= 10;
            }
            chance[row] += left;
            known = false;
        }

        long meanOf(int hours, int work, int one) {
            settleAll();
            return read(mean, hours, work, one);
        }

        int ruleOf(int hours, int work, int one) {
            settleAll();
            return readInt(choice, hours, work, one);
        }

        int greatestOf(int hours, int work, int one) {
            settleAll();
            return readInt(greatest, hours, work, one);
        }

        long meanCapped(int hours, int work, int one, int cap) {
            for (int h = 0; h <= hours; h++) {
                for (int w = 0; w <= Math.min(h, work); w++) {
                    for (int i = 0; i < size; i++) {
                        settleCapped(h, w, i, cap);
                    }
                }
            }
            return read(meanByCap, hours, work, one);
        }

        private void settleAll() {
            if (known) {
                return;
            }
            for (int h = 0; h <= MOST_HOURS; h++) {
                for (int w = 0; w <= h; w++) {
                    for (int i = 0; i < size; i++) {
                        settleMean(h, w, i);
                        settleGreatest(h, w, i);
                    }
                }
            }
            known = true;
        }

        private void settleMean(int h, int w, int one) {
            int state = stateOf(h, w, one);
            if (state == NONE) {
                return;
            }
            if (w == 0) {
                mean[state] = 0;
                choice[state] = WAIT;
                return;
            }
            long parts = Losses.power(10, h);
            long behind = meanBehind(mean, h - 1, w - 1, one);
            long best = prices.atFull * parts + behind;
            int by = AT_FULL;
            long atPrice = askedAt(one) * parts + behind;
            if (atPrice <= best) {
                best = atPrice;
                by = AT_PRICE;
            }
            long waiting = meanBehind(mean, h - 1, w, one);
            if (w < h && waiting <= best) {
                best = waiting;
                by = WAIT;
            }
            mean[state] = best;
            choice[state] = by;
        }

        private void settleGreatest(int h, int w, int one) {
            int state = stateOf(h, w, one);
            if (state == NONE) {
                return;
            }
            if (w == 0) {
                greatest[state] = 0;
            } else if (choice[state] == WAIT) {
                greatest[state] = greatestBehind(h - 1, w, one);
            } else {
                int pays = choice[state] == AT_PRICE ? askedAt(one) : prices.atFull;
                greatest[state] = pays + greatestBehind(h - 1, w - 1, one);
            }
        }

        private void settleCapped(int h, int w, int one, int cap) {
            int state = stateOf(h, w, one);
            if (state == NONE) {
                return;
            }
            int price = askedAt(one);
            if (w == 0) {
                meanByCap[state] = 0;
            } else if (price > cap && w < h) {
                meanByCap[state] = meanBehind(meanByCap, h - 1, w, one);
            } else {
                int pays = price > cap ? Math.min(price, prices.atFull) : price;
                meanByCap[state] = pays * Losses.power(10, h)
                        + meanBehind(meanByCap, h - 1, w - 1, one);
            }
        }

        /** Parts of 10 to the power of h, times tenths, are parts of one hour more. */
        private long meanBehind(long[] means, int h, int w, int one) {
            long sum = 0;
            for (int next = 0; next < size; next++) {
                sum += chanceOf(one, next) * read(means, h, w, next);
            }
            return sum;
        }

        private int greatestBehind(int h, int w, int one) {
            int most = 0;
            for (int next = 0; next < size; next++) {
                if (chanceOf(one, next) > 0) {
                    most = Math.max(most, readInt(greatest, h, w, next));
                }
            }
            return most;
        }

        private int askedAt(int one) {
            return within(one, 0, asked.length - 1) ? asked[one] : 0;
        }

        private int chanceOf(int one, int next) {
            boolean there = within(one, 0, MOST_LEVELS - 1) && within(next, 0, MOST_LEVELS - 1);
            return there ? chance[one * MOST_LEVELS + next] : 0;
        }

        private static long read(long[] row, int h, int w, int one) {
            int state = stateOf(h, w, one);
            return within(state, 0, row.length - 1) ? row[state] : 0;
        }

        private static int readInt(int[] row, int h, int w, int one) {
            int state = stateOf(h, w, one);
            return within(state, 0, row.length - 1) ? row[state] : 0;
        }

        private static int stateOf(int h, int w, int one) {
            boolean there = h >= 0 && h <= MOST_HOURS && w >= 0 && w <= MOST_HOURS
                    && one >= 0 && one < MOST_LEVELS;
            return there ? (h * (MOST_HOURS + 1) + w) * MOST_LEVELS + one : NONE;
        }
    }

    /**
     * What a job would have cost with all prices known, told from DUE backwards. Work that is
     * neither saved nor the last is never worth its price, nor is an idle hour on a machine: so who
     * is on a machine is told by its place and what is done there, who is on none by what is saved.
     */
    private static final class Hindsight {
        private static final int NOWHERE = Prices.FULL_PLACE + 1;
        private static final int PLACES = NOWHERE + 1;
        /** Five hours are the longest step (a save, or bringing back), and the hour itself. */
        private static final int KEPT_HOURS = 6;
        private static final int NEVER = 1000000000;

        private final Prices prices;
        private final int[] least;

        Hindsight(Prices prices) {
            this.prices = prices;
            least = new int[KEPT_HOURS * PLACES * Terms.MOST_WORK];
        }

        int leastSum(Terms terms) {
            for (int hour = terms.due - 1; hour >= terms.came; hour--) {
                settleHour(terms, hour);
            }
            return from(terms, terms.came, NOWHERE, 0);
        }

        /** Machines first: who comes to one without bringing back looks at them in the same hour. */
        private void settleHour(Terms terms, int hour) {
            for (int place = 0; place < NOWHERE; place++) {
                for (int done = 0; done < terms.work; done++) {
                    put(hour, place, done, onMachine(terms, hour, place, done));
                }
            }
            for (int saved = 0; saved < terms.work; saved++) {
                put(hour, NOWHERE, saved, onNone(terms, hour, saved));
            }
        }

        private int onMachine(Terms terms, int hour, int place, int done) {
            int working = stay(place, hour, 1);
            if (terms.save == 0) {
                return sum(working, fromSaved(terms, hour + 1, place, done + 1));
            }
            int on = sum(working, from(terms, hour + 1, place, done + 1));
            int saving = stay(place, hour, terms.save);
            return Math.min(on, sum(saving, fromSaved(terms, hour + terms.save, place, done)));
        }

        private int onNone(Terms terms, int hour, int saved) {
            int best = from(terms, hour + 1, NOWHERE, saved);
            for (int place = 0; place < NOWHERE; place++) {
                int anew = from(terms, hour, place, 0);
                int bringing = stay(place, hour, terms.bring);
                int back = saved == 0 ? NEVER
                        : sum(bringing, from(terms, hour + terms.bring, place, saved));
                best = Math.min(best, Math.min(anew, back));
            }
            return best;
        }

        private int fromSaved(Terms terms, int hour, int place, int done) {
            return Math.min(from(terms, hour, place, done), from(terms, hour, NOWHERE, done));
        }

        private int from(Terms terms, int hour, int place, int done) {
            if (hour > terms.due) {
                return NEVER;
            }
            if (done >= terms.work) {
                return 0;
            }
            int slot = hour < terms.due ? slotOf(hour, place, done) : NONE;
            return within(slot, 0, least.length - 1) ? least[slot] : NEVER;
        }

        private int stay(int place, int hour, int hours) {
            int coins = 0;
            for (int i = 0; i < hours; i++) {
                int asked = prices.at(place, hour + i);
                coins = sum(coins, asked == NONE ? NEVER : asked);
            }
            return coins;
        }

        private void put(int hour, int place, int done, int coins) {
            int slot = slotOf(hour, place, done);
            if (within(slot, 0, least.length - 1)) {
                least[slot] = coins;
            }
        }

        private static int sum(int one, int other) {
            return Math.min(NEVER, one + other);
        }

        private static int slotOf(int hour, int place, int done) {
            boolean there = hour >= 0 && hour < HOURS && place >= 0 && place < PLACES
                    && done >= 0 && done < Terms.MOST_WORK;
            return there ? (hour % KEPT_HOURS * PLACES + place) * Terms.MOST_WORK + done : NONE;
        }
    }
}
