/** Term 4: the table, at the edges of levels, hours and work. */
public final class T4TableTest {
    public static void main(String[] args) {
        Check check = new Check("term 4");
        levelsAre1To6(check);
        pricesAre0To999(check);
        chancesAreTenTogether(check);
        hoursAre0To12(check);
        workIsNotAboveHours(check);
        waitsOnlyBelowHours(check);
        allWorkIsDone(check);
        meansAreInParts(check);
        ruleIsTheFirst(check);
        noWorkCostsNothing(check);
        greatestLeavesOutWhatDoesntCome(check);
        greatestGoesByTheRule(check);
        cappedWorksUpToC(check);
        cappedWaitsBelowHours(check);
        cappedPaysTheLesser(check);
        check.end();
    }

    /** Levels with one price each, all of which stay where they are. */
    private static CheapHours staying(int full, int... prices) {
        CheapHours x = new CheapHours();
        x.full(full);
        x.levels(prices.length);
        for (int i = 0; i < prices.length; i++) {
            x.level(i, prices[i], 0);
        }
        return x;
    }

    private static void levelsAre1To6(Check check) {
        check.about("LEVELS 0 .. n - 1 (1 .. 6)");
        for (int n = 1; n <= 6; n++) {
            CheapHours x = new CheapHours();
            check.yes("levels", x.levels(n));
            check.yes("the last one", x.level(n - 1, 5, 0));
            check.no("one more", x.level(n, 5, 0));
            check.due("its PRICE", x.table(1, 1, n - 1), 50);
            check.none("no more", x.table(1, 1, n));
        }
        check.no("0", new CheapHours().levels(0));
        check.no("7", new CheapHours().levels(7));
    }

    private static void pricesAre0To999(Check check) {
        check.about("have a PRICE (0 .. 999)");
        check.due("0", staying(999, 0).table(1, 1, 0), 0);
        check.due("999", staying(999, 999).table(1, 1, 0), 9990);
        CheapHours x = staying(999, 7);
        check.no("-1", x.level(0, -1, 0));
        check.no("1000", x.level(0, 1000, 0));
        check.due("it stays", x.table(1, 1, 0), 70);
    }

    private static void chancesAreTenTogether(Check check) {
        check.about("chances, in tenths (10 together)");
        CheapHours x = staying(999, 100, 300);
        // this hour's price in hundredths, and the next one's in tenths of it
        int[][] rows = {{0, 10, 0}, {10, 9, 1}, {90, 1, 9}, {91, 1, 9}, {19, 9, 1}, {9, 10, 0}};
        for (int[] row : rows) {
            check.yes("chances " + row[0], x.level(0, 100, row[0]));
            check.due("chances " + row[0], x.table(2, 2, 0), 10000 + 10 * (row[1] * 100 + row[2] * 300));
        }
        check.no("eleven", x.level(0, 100, 92));
        check.no("eleven", x.level(0, 100, 29));
        check.no("eighteen", x.level(0, 100, 99));
        check.due("the latest stay", x.table(2, 2, 0), 20000);
    }

    private static void hoursAre0To12(Check check) {
        check.about("With h HOURS left (0 .. 12)");
        CheapHours x = staying(999, 1);
        long parts = 1;
        for (int h = 0; h <= 12; h++) {
            check.due("h " + h + ", all of them", x.table(h, h, 0), h * parts);
            check.due("worst", x.worst(h, h, 0), h);
            check.due("capped", x.capped(h, h, 0, 0), h * parts);
            parts *= 10;
        }
        check.none("h 13", x.table(13, 1, 0));
        check.none("h -1", x.table(-1, 0, 0));
        check.none("h -1, w -1", x.table(-1, -1, 0));
    }

    private static void workIsNotAboveHours(Check check) {
        check.about("w of WORK left (0 .. 12, not above h)");
        for (int h = 0; h <= 12; h++) {
            CheapHours x = staying(999, 1);
            for (int w = 0; w <= h; w++) {
                check.due("w " + w + " of " + h, x.worst(h, w, 0), w);
            }
            check.none("w above h", x.worst(h, h + 1, 0));
            check.none("w -1", x.worst(h, -1, 0));
        }
    }

    private static void waitsOnlyBelowHours(Check check) {
        check.about("one can wait (if w is below h)");
        CheapHours x = new CheapHours();
        x.full(50);
        x.levels(2);
        x.level(0, 0, 0);
        x.level(1, 60, 0);
        for (int h = 1; h <= 12; h++) {
            check.due("w is h: FULL", x.rule(h, h, 1), 2);
            check.due("w is h: PRICE", x.rule(h, h, 0), 1);
            if (h > 1) {
                check.due("w is one below h: wait", x.rule(h, h - 1, 1), 0);
                check.due("then all is free", x.table(h, h - 1, 1), 0);
            }
        }
    }

    private static void allWorkIsDone(Check check) {
        check.about("All WORK must be done");
        CheapHours x = staying(999, 999);
        for (int w = 1; w <= 12; w++) {
            check.due("w " + w, x.worst(12, w, 0), w * 999);
            check.due("w " + w, x.table(12, w, 0), w * 999L * 1000000000000L);
            check.due("w " + w, x.capped(12, w, 0, 0), w * 999L * 1000000000000L);
        }
    }

    /** LEVEL 1 comes with one tenth in each hour: ten to the power of h is just enough. */
    private static void meansAreInParts(Check check) {
        check.about("in parts of 10 to the power of h");
        CheapHours x = new CheapHours();
        x.full(999);
        x.levels(2);
        x.level(0, 0, 10);
        x.level(1, 1, 10);
        // all hours are worked: this one free, and each of the others costs a tenth
        long parts = 10;
        for (int h = 1; h <= 12; h++) {
            check.due("h " + h, x.table(h, h, 0), (h - 1) * parts / 10);
            check.due("h " + h + ", from LEVEL 1", x.table(h, h, 1), parts + (h - 1) * parts / 10);
            parts *= 10;
        }
        // of two hours one must do: it is dear if both are
        check.due("waiting, then a tenth", x.table(2, 1, 1), 10);
        check.due("waiting twice, then a hundredth", x.table(3, 1, 1), 10);
        check.due("eleven times", x.table(12, 1, 1), 10);
    }

    private static void ruleIsTheFirst(Check check) {
        check.about("the RULE is the first of: 0 wait, 1 work at the PRICE, 2 at FULL price");
        check.due("all three cost the same: wait", staying(40, 40).rule(2, 1, 0), 0);
        check.due("PRICE and FULL cost the same: PRICE", staying(40, 40).rule(2, 2, 0), 1);
        check.due("FULL is one more: PRICE", staying(41, 40).rule(2, 2, 0), 1);
        check.due("FULL is one less: FULL", staying(39, 40).rule(2, 2, 0), 2);
        check.due("wait and FULL cost the same: wait", staying(39, 40).rule(2, 1, 0), 0);
        check.due("all is free: wait", staying(40, 0).rule(2, 1, 0), 0);
        check.due("all is free, no hour to wait", staying(40, 0).rule(2, 2, 0), 1);
        check.due("the next hour is one dearer", goingTo(40, 10, 11).rule(2, 1, 1), 1);
        check.due("the next hour costs the same", goingTo(40, 10, 10).rule(2, 1, 1), 0);
        check.due("the next hour is one cheaper", goingTo(40, 11, 10).rule(2, 1, 1), 0);
        check.due("FULL now or in the next hour: wait", goingTo(1, 5, 2).rule(2, 1, 1), 0);
    }

    /** LEVEL 1 costs 'here' and goes to LEVEL 0, that costs 'next'. */
    private static CheapHours goingTo(int full, int here, int next) {
        return staying(full, next, here);
    }

    private static void noWorkCostsNothing(Check check) {
        check.about("(none if w is 0: it is 0 then, and costs 0)");
        CheapHours x = staying(999, 999, 500);
        for (int h = 0; h <= 12; h++) {
            check.due("rule", x.rule(h, 0, h % 2), 0);
            check.due("table", x.table(h, 0, h % 2), 0);
            check.due("worst", x.worst(h, 0, h % 2), 0);
            check.due("capped", x.capped(h, 0, h % 2, 999), 0);
        }
    }

    private static void greatestLeavesOutWhatDoesntCome(Check check) {
        check.about("GREATEST (LEVELS with a chance of 0 don't come)");
        CheapHours x = staying(999, 10, 900);
        check.due("a chance of 0", x.worst(2, 2, 0), 20);
        x.level(0, 10, 10);
        check.due("a chance of 1", x.worst(2, 2, 0), 910);
        x.level(0, 10, 0);
        check.due("a chance of 0 again", x.worst(2, 2, 0), 20);
        x.level(1, 900, 90);
        check.due("LEVEL 1 itself has a chance of 9", x.worst(2, 2, 1), 1800);
        CheapHours away = new CheapHours();
        away.full(999);
        away.levels(3);
        away.level(0, 900, 0);
        away.level(1, 10, 550);
        away.level(2, 20, 550);
        check.due("LEVEL 0 has a chance of 0", away.worst(3, 3, 1), 50);
    }

    /** By the mean one waits; the greatest is more than what working at once would cost. */
    private static void greatestGoesByTheRule(Check check) {
        check.about("GREATEST is what it can come to by the RULE at most");
        CheapHours x = new CheapHours();
        x.full(90);
        x.levels(2);
        x.level(0, 0, 10);
        x.level(1, 80, 10);
        check.due("rule", x.rule(2, 1, 1), 0);
        check.due("worst", x.worst(2, 1, 1), 80);
        x.level(1, 95, 10);
        check.due("at FULL in the last hour", x.worst(2, 1, 1), 90);
        check.due("no hour to wait", x.worst(2, 2, 1), 180);
    }

    private static void cappedWorksUpToC(Check check) {
        check.about("CAPPED by c: work at the PRICE if that isn't above c");
        CheapHours x = goingTo(40, 70, 10);
        check.due("c is the PRICE: it works", x.capped(2, 1, 1, 70), 7000);
        check.due("c is one less: it waits", x.capped(2, 1, 1, 69), 1000);
        check.due("c is one more: it works", x.capped(2, 1, 1, 71), 7000);
        check.due("c 0, PRICE 0", goingTo(40, 0, 10).capped(2, 1, 1, 0), 0);
        check.due("c 0, PRICE 1", goingTo(40, 1, 10).capped(2, 1, 1, 0), 1000);
        check.due("c 999, PRICE 999", goingTo(40, 999, 10).capped(2, 1, 1, 999), 99900);
        check.due("c 998, PRICE 999", goingTo(40, 999, 10).capped(2, 1, 1, 998), 1000);
    }

    private static void cappedWaitsBelowHours(Check check) {
        check.about("else wait, if w is below h");
        for (int h = 1; h <= 12; h++) {
            CheapHours x = staying(40, 30);
            long parts = 1;
            for (int i = 0; i < h; i++) {
                parts *= 10;
            }
            check.due("w is h", x.capped(h, h, 0, 29), h * 30 * parts);
            check.due("one hour is waited", x.capped(h, h - 1, 0, 29), (h - 1) * 30 * parts);
        }
        CheapHours x = goingTo(40, 70, 10);
        check.due("w is below h: the next hour", x.capped(3, 2, 1, 9), 20000);
        check.due("w is h: no hour to wait", x.capped(2, 2, 1, 9), 5000);
    }

    private static void cappedPaysTheLesser(Check check) {
        check.about("else work at the lesser of PRICE and FULL");
        check.due("PRICE is one less", staying(40, 39).capped(1, 1, 0, 38), 390);
        check.due("both are the same", staying(40, 40).capped(1, 1, 0, 39), 400);
        check.due("FULL is one less", staying(40, 41).capped(1, 1, 0, 40), 400);
        check.due("but by c the PRICE", staying(40, 41).capped(1, 1, 0, 41), 410);
    }
}
