/** Term 2: an hour of a job, at the edges that it names. */
public final class T2HourOfAJobTest {
    private static final String[] NAMES = {"SAVED", "unsaved", "LOST", "work", "bringing", "saving",
        "WAITED", "paid", "at FULL", "where", "READY", "NEED", "TAKEN"};

    public static void main(String[] args) {
        Check check = new Check("term 2");
        readyOnesAreLeftAlone(check);
        comesToFullFromNoMachine(check);
        comesToFullFromItsMarket(check);
        bringsBackAtFullAboveBring(check);
        losesAllAtFullUpToBring(check);
        bringsNothingInNoHours(check);
        bringsBackAnewAtFull(check);
        savesAtOnceAtFull(check);
        paysFullForEachHour(check);
        waitsAtNoneOrAboveBid(check);
        isTakenFromAMachineAlone(check);
        losesASaveThatIsntThrough(check);
        keepsASaveThatIsThrough(check);
        bringsBackIfSomethingIsSaved(check);
        bringsBackFromTheFirstHour(check);
        paysThePriceForEachHour(check);
        savesBehindSpan(check);
        savesBehindSpanSinceItCameBack(check);
        savesBehindAllItsWork(check);
        savesInNoTime(check);
        readyWhenAllIsSaved(check);
        guardedWhileItSaves(check);
        jobsDontBarOneAnother(check);
        check.end();
    }

    /** Dues are given in the order of NAMES. */
    private static void row(Check check, String when, CheapHours x, int job, int... dues) {
        for (int what = 0; what < dues.length; what++) {
            check.due(when + ": " + NAMES[what], x.told(job, what), dues[what]);
        }
    }

    private static void readyOnesAreLeftAlone(Check check) {
        check.about("AN HOUR of a JOB that isn't READY");
        CheapHours x = new CheapHours();
        x.price(0, 0, 199, 5);
        x.price(0, 4, 4, -1);
        x.job(2010000, 5, 1);
        x.job(2002000, 5, 1);
        x.go(2);
        row(check, "READY", x, 0, 2, 0, 0, 2, 0, 0, 0, 10, 0, 0, 2, 0, 0);
        row(check, "READY at FULL", x, 1, 2, 0, 0, 2, 0, 0, 0, 200, 2, 0, 2, 0, 0);
        x.go(198);
        row(check, "long READY", x, 0, 2, 0, 0, 2, 0, 0, 0, 10, 0, 0, 2, 0, 0);
        row(check, "long READY at FULL", x, 1, 2, 0, 0, 2, 0, 0, 0, 200, 2, 0, 2, 0, 0);
    }

    private static void comesToFullFromNoMachine(Check check) {
        check.about("when it has just come there (from no machine)");
        CheapHours x = new CheapHours();
        x.job(3005055, 999, 1);
        x.go(2);
        row(check, "it waits", x, 0, 0, 0, 0, 0, 0, 0, 2, 0, 0, 0, -1, 3, 0);
        x.go(1);
        row(check, "it works", x, 0, 1, 0, 0, 1, 0, 0, 2, 100, 1, 2, -1, 3, 0);
    }

    private static void comesToFullFromItsMarket(Check check) {
        check.about("or from its MARKET, what isn't SAVED being LOST");
        CheapHours x = new CheapHours();
        x.price(0, 0, 199, 1);
        x.job(4010000, 1, 60);
        x.job(6009052, 1, 60);
        x.go(3);
        row(check, "at its market", x, 1, 0, 3, 0, 3, 0, 0, 0, 3, 0, 1, -1, 6, 0);
        x.go(1);
        row(check, "what isn't SAVED is LOST", x, 1, 1, 0, 3, 4, 0, 0, 0, 103, 1, 2, -1, 6, 0);
        row(check, "the other one is READY", x, 0, 4, 0, 0, 4, 0, 0, 0, 4, 0, 0, 4, 0, 0);
        x.go(5);
        row(check, "READY", x, 1, 6, 0, 3, 9, 0, 0, 0, 603, 6, 0, 9, 2, 0);
    }

    /** SAVED is one more than BRING: in each case it is brought back. */
    private static void bringsBackAtFullAboveBring(Check check) {
        check.about("it first takes BRING HOURS to bring back, if more than that is SAVED");
        for (int bring = 0; bring <= 5; bring++) {
            CheapHours x = new CheapHours();
            x.price(0, 0, bring, 0);
            x.job(10030000 + bring, 0, bring + 1);
            x.go(30 - 9);
            row(check, "BRING " + bring + ", it waits", x, 0, bring + 1, 0, 0, bring + 1, 0, 0,
                    20 - bring, 0, 0, 0, -1, 9, 1);
            x.go(bring);
            row(check, "BRING " + bring + ", brought back", x, 0, bring + 1, 0, 0, bring + 1, bring, 0,
                    20 - bring, bring * 100, bring, bring == 0 ? 0 : 2, -1, 9, 1);
            x.go(1);
            check.due("it works", x.told(0, 0), bring + 2);
            x.go(8 - bring);
            row(check, "BRING " + bring + ", READY", x, 0, 10, 0, 0, 10, bring, 0,
                    20 - bring, 900, 9, 0, 30, bring, 1);
        }
    }

    private static void losesAllAtFullUpToBring(Check check) {
        check.about("(else what is SAVED is LOST, too, and it begins anew)");
        for (int bring = 1; bring <= 5; bring++) {
            CheapHours x = new CheapHours();
            x.price(0, 0, bring - 1, 0);
            x.job(10030000 + bring, 0, bring);
            x.go(20);
            row(check, "BRING " + bring + ", it waits", x, 0, bring, 0, 0, bring, 0, 0,
                    20 - bring, 0, 0, 0, -1, 10, 1);
            x.go(1);
            row(check, "BRING " + bring + ", begins anew", x, 0, 1, 0, bring, bring + 1, 0, 0,
                    20 - bring, 100, 1, 2, -1, 10, 1);
            x.go(9);
            row(check, "BRING " + bring + ", READY", x, 0, 10, 0, bring, bring + 10, 0, 0,
                    20 - bring, 1000, 10, 0, 30, bring, 1);
        }
        CheapHours both = new CheapHours();
        both.price(0, 0, 199, 0);
        both.job(10013005, 0, 2);
        both.go(3);
        row(check, "at its market", both, 0, 2, 1, 0, 3, 0, 0, 0, 0, 0, 1, -1, 10, 0);
        both.go(1);
        row(check, "SAVED and unsaved are LOST", both, 0, 1, 0, 3, 4, 0, 0, 0, 100, 1, 2, -1, 10, 0);
    }

    private static void bringsNothingInNoHours(Check check) {
        check.about("it first takes BRING HOURS, BRING being 0");
        CheapHours x = new CheapHours();
        x.price(0, 0, 199, 0);
        x.job(5007000, 0, 2);
        x.go(3);
        row(check, "at its market", x, 0, 2, 1, 0, 3, 0, 0, 0, 0, 0, 1, -1, 3, 0);
        x.go(1);
        row(check, "SAVED at its market", x, 0, 4, 0, 0, 4, 0, 0, 0, 0, 0, 1, -1, 1, 0);
        x.price(0, 4, 199, 1);
        x.go(2);
        row(check, "it waits", x, 0, 4, 0, 0, 4, 0, 0, 2, 0, 0, 0, -1, 1, 1);
        x.go(1);
        row(check, "works at once", x, 0, 5, 0, 0, 5, 0, 0, 2, 100, 1, 0, 7, 0, 1);
    }

    /** What it brought back at its market is of no use at FULL. */
    private static void bringsBackAnewAtFull(Check check) {
        check.about("when it has just come there it first takes BRING HOURS, all of them");
        CheapHours x = new CheapHours();
        x.price(0, 0, 3, 1);
        x.price(0, 5, 199, 1);
        x.job(6012003, 1, 4);
        x.go(7);
        row(check, "two of three at its market", x, 0, 4, 0, 0, 4, 2, 0, 1, 6, 0, 1, -1, 5, 1);
        x.go(3);
        row(check, "three of three at FULL", x, 0, 4, 0, 0, 4, 5, 0, 1, 306, 3, 2, -1, 5, 1);
        x.go(2);
        row(check, "READY", x, 0, 6, 0, 0, 6, 5, 0, 1, 506, 5, 0, 12, 3, 1);
    }

    private static void savesAtOnceAtFull(Check check) {
        check.about("then each HOUR does one of work, SAVED at once");
        CheapHours x = new CheapHours();
        x.job(5005055, 0, 60);
        for (int hour = 1; hour < 5; hour++) {
            x.go(1);
            row(check, "SPAN 60, SAVE 5", x, 0, hour, 0, 0, hour, 0, 0, 0, hour * 100, hour, 2, -1, 5, 0);
        }
        x.go(1);
        row(check, "READY", x, 0, 5, 0, 0, 5, 0, 0, 0, 500, 5, 0, 5, 5, 0);
    }

    private static void paysFullForEachHour(Check check) {
        check.about("It pays FULL");
        CheapHours x = new CheapHours();
        x.full(7);
        x.price(0, 0, 199, 1);
        x.job(6010002, 1, 3);
        x.go(5);
        row(check, "at its market", x, 0, 3, 2, 0, 5, 0, 0, 0, 5, 0, 1, -1, 5, 0);
        x.price(0, 5, 199, 2);
        x.go(1);
        row(check, "it brings back", x, 0, 3, 0, 2, 5, 1, 0, 0, 12, 1, 2, -1, 5, 0);
        x.go(4);
        row(check, "READY", x, 0, 6, 0, 2, 8, 2, 0, 0, 40, 5, 0, 10, 2, 0);
    }

    private static void waitsAtNoneOrAboveBid(Check check) {
        check.about("if its MARKET's PRICE in h is none or above its BID");
        CheapHours x = new CheapHours();
        x.price(0, 0, 0, 500);
        x.price(0, 1, 1, 501);
        x.price(0, 2, 2, 499);
        x.price(0, 3, 3, -1);
        x.price(0, 4, 4, 0);
        x.price(0, 5, 5, 999);
        x.price(1, 0, 199, 1);
        x.job(20100000, 500, 60);
        int[] waited = {0, 1, 1, 2, 2, 3, 4};
        int[] where = {1, 0, 1, 0, 1, 0, 0};
        int[] paid = {500, 500, 999, 999, 999, 999, 999};
        int[] taken = {0, 1, 1, 2, 2, 3, 3};
        for (int hour = 0; hour < 7; hour++) {
            x.go(1);
            check.due("WAITED behind " + hour, x.told(0, 6), waited[hour]);
            check.due("where it is behind " + hour, x.told(0, 9), where[hour]);
            check.due("paid behind " + hour, x.told(0, 7), paid[hour]);
            check.due("TAKEN behind " + hour, x.told(0, 12), taken[hour]);
        }
    }

    private static void isTakenFromAMachineAlone(Check check) {
        check.about("if it is on a machine there that is TAKEN");
        CheapHours x = new CheapHours();
        x.price(0, 0, 3, 9);
        x.price(0, 4, 4, 3);
        x.price(0, 5, 199, 4);
        x.job(3100000, 3, 1);
        x.go(4);
        check.due("none was there to be TAKEN", x.told(0, 12), 0);
        x.go(1);
        check.due("it works", x.told(0, 3), 1);
        x.go(1);
        check.due("TAKEN", x.told(0, 12), 1);
        x.go(50);
        check.due("and not again", x.told(0, 12), 1);
        x.go(44);
        check.due("going to FULL isn't it", x.told(0, 12), 1);
    }

    /** The last hour of the save doesn't come: two are LOST, and the next save is whole. */
    private static void losesASaveThatIsntThrough(Check check) {
        check.about("a save that isn't through counts for nothing");
        for (int save = 1; save <= 5; save++) {
            for (int saved = 0; saved < save; saved++) {
                CheapHours x = new CheapHours();
                x.price(0, 0, 199, 0);
                x.price(0, 2 + saved, 2 + saved, 1);
                x.job(2100000 + save * 10, 0, 60);
                x.go(2 + saved);
                row(check, "it saves", x, 0, 0, 2, 0, 2, 0, saved, 0, 0, 0, 1, -1, 2, 0);
                x.go(1);
                row(check, "TAKEN", x, 0, 0, 0, 2, 2, 0, saved, 1, 0, 0, 0, -1, 2, 1);
                x.go(2 + save - 1);
                row(check, "anew", x, 0, 0, 2, 2, 4, 0, saved + save - 1, 1, 0, 0, 1, -1, 2, 1);
                x.go(1);
                row(check, "READY", x, 0, 2, 0, 2, 4, 0, saved + save, 1, 0, 0, 0,
                        5 + saved + save, 0, 1);
            }
        }
    }

    private static void keepsASaveThatIsThrough(Check check) {
        check.about("it is through with the last one: all is SAVED then");
        for (int save = 0; save <= 5; save++) {
            CheapHours x = new CheapHours();
            x.price(0, 0, 199, 0);
            x.price(0, 2 + save, 2 + save, 1);
            x.job(5100000 + save * 10, 0, 2);
            x.go(2 + save);
            row(check, "SAVE " + save, x, 0, 2, 0, 0, 2, 0, save, 0, 0, 0, 1, -1, 3, 0);
            x.go(1);
            row(check, "TAKEN, SAVE " + save, x, 0, 2, 0, 0, 2, 0, save, 1, 0, 0, 0, -1, 3, 1);
        }
    }

    /** At its market one saved hour is brought back even where BRING is more. */
    private static void bringsBackIfSomethingIsSaved(Check check) {
        check.about("begins by bringing back, BRING HOURS, if something is SAVED");
        CheapHours x = new CheapHours();
        x.price(0, 0, 0, 0);
        x.price(0, 2, 199, 0);
        x.job(3100005, 0, 1);
        x.job(3100005, 0, 2);
        x.go(1);
        check.due("one is SAVED", x.told(0, 0), 1);
        check.due("of the other none is", x.told(1, 0), 0);
        x.go(6);
        row(check, "brought back", x, 0, 1, 0, 0, 1, 5, 0, 1, 0, 0, 1, -1, 3, 1);
        row(check, "nothing to bring", x, 1, 3, 0, 1, 4, 0, 0, 1, 0, 0, 0, 5, 3, 1);
        x.go(1);
        row(check, "it works", x, 0, 2, 0, 0, 2, 5, 0, 1, 0, 0, 1, -1, 3, 1);
    }

    private static void bringsBackFromTheFirstHour(Check check) {
        check.about("it goes on with bringing back, and when TAKEN begins it again");
        CheapHours x = new CheapHours();
        x.price(0, 0, 199, 0);
        x.price(0, 1, 1, 1);
        x.price(0, 4, 4, 1);
        x.price(0, 8, 8, 1);
        x.job(2100003, 0, 1);
        x.go(4);
        row(check, "two of three", x, 0, 1, 0, 0, 1, 2, 0, 1, 0, 0, 1, -1, 2, 1);
        x.go(1);
        row(check, "TAKEN", x, 0, 1, 0, 0, 1, 2, 0, 2, 0, 0, 0, -1, 2, 2);
        x.go(3);
        row(check, "three of three", x, 0, 1, 0, 0, 1, 5, 0, 2, 0, 0, 1, -1, 2, 2);
        x.go(1);
        row(check, "TAKEN before it worked", x, 0, 1, 0, 0, 1, 5, 0, 3, 0, 0, 0, -1, 2, 3);
        x.go(4);
        row(check, "READY", x, 0, 2, 0, 0, 2, 8, 0, 3, 0, 0, 0, 13, 2, 3);
    }

    private static void paysThePriceForEachHour(Check check) {
        check.about("and pays the PRICE");
        CheapHours x = new CheapHours();
        for (int hour = 0; hour < 10; hour++) {
            x.price(0, hour, hour, 1 << hour);
        }
        x.price(0, 3, 3, 999);
        x.job(2100022, 998, 1);
        // works in 0, saves in 1 and 2, is taken in 3, brings back in 4 and 5, works, saves, saves
        int[] paid = {1, 3, 7, 7, 23, 55, 119, 247, 503, 503};
        for (int hour = 0; hour < 10; hour++) {
            x.go(1);
            check.due("paid behind " + hour, x.told(0, 7), paid[hour]);
        }
        check.due("READY", x.told(0, 10), 9);
    }

    private static void savesBehindSpan(Check check) {
        check.about("If it has worked SPAN HOURS since the latest save (or since it began)");
        CheapHours x = new CheapHours();
        x.price(0, 0, 199, 0);
        x.job(7100010, 0, 3);
        int[] saved = {0, 0, 0, 3, 3, 3, 3, 6, 6, 7};
        int[] unsaved = {1, 2, 3, 0, 1, 2, 3, 0, 1, 0};
        for (int hour = 0; hour < 10; hour++) {
            x.go(1);
            check.due("SAVED behind " + hour, x.told(0, 0), saved[hour]);
            check.due("unsaved behind " + hour, x.told(0, 1), unsaved[hour]);
        }
        check.due("READY", x.told(0, 10), 10);
    }

    private static void savesBehindSpanSinceItCameBack(Check check) {
        check.about("(or came back)");
        CheapHours x = new CheapHours();
        x.price(0, 0, 199, 0);
        x.price(0, 2, 2, 1);
        x.job(9100000, 0, 3);
        x.go(3);
        row(check, "two are LOST", x, 0, 0, 0, 2, 2, 0, 0, 1, 0, 0, 0, -1, 9, 1);
        x.go(2);
        row(check, "two of three", x, 0, 0, 2, 2, 4, 0, 0, 1, 0, 0, 1, -1, 9, 1);
        x.go(1);
        row(check, "SAVED", x, 0, 3, 0, 2, 5, 0, 0, 1, 0, 0, 1, -1, 6, 1);
    }

    private static void savesBehindAllItsWork(Check check) {
        check.about("or all its WORK, a save begins");
        for (int span : new int[] {4, 5, 6, 60}) {
            CheapHours x = new CheapHours();
            x.price(0, 0, 199, 0);
            x.job(5100020, 0, span);
            int saves = span < 5 ? 2 : 1;
            x.go(5 + saves * 2 - 1);
            check.due("SPAN " + span + ", the last save isn't through", x.told(0, 10), -1);
            x.go(1);
            check.due("SPAN " + span + ", READY", x.told(0, 10), 5 + saves * 2);
        }
        CheapHours one = new CheapHours();
        one.price(0, 0, 199, 0);
        one.job(1100050, 0, 60);
        one.go(6);
        check.due("WORK 1, READY", one.told(0, 10), 6);
    }

    private static void savesInNoTime(Check check) {
        check.about("(at once, if SAVE is 0)");
        CheapHours x = new CheapHours();
        x.price(0, 0, 199, 0);
        x.job(3100000, 0, 2);
        x.go(1);
        check.due("not before SPAN", x.told(0, 0), 0);
        x.go(1);
        check.due("SAVED with the second", x.told(0, 0), 2);
        x.go(1);
        check.due("READY with the third", x.told(0, 10), 3);
        check.due("HOURS of saving", x.told(0, 5), 0);
    }

    private static void readyWhenAllIsSaved(Check check) {
        check.about("It is READY when all its WORK is SAVED");
        CheapHours x = new CheapHours();
        x.price(0, 0, 199, 0);
        x.job(3100050, 0, 60);
        x.go(3);
        check.due("all is done", x.told(0, 1), 3);
        for (int hour = 4; hour <= 7; hour++) {
            x.go(1);
            check.due("not READY behind " + hour, x.told(0, 10), -1);
            check.due("READY ones", x.count(2), 0);
        }
        x.go(1);
        check.due("READY", x.told(0, 10), 8);
        check.due("READY ones", x.count(2), 1);
    }

    private static void guardedWhileItSaves(Check check) {
        check.about("If it is GUARDED: it is at FULL price, though its save was nearly through");
        CheapHours x = new CheapHours();
        x.price(0, 0, 199, 1);
        x.job(1002010, 1, 1);
        x.job(1003010, 1, 1);
        x.go(1);
        row(check, "done", x, 0, 0, 1, 0, 1, 0, 0, 0, 1, 0, 1, -1, 1, 0);
        x.go(1);
        row(check, "LOST, and done again", x, 0, 1, 0, 1, 2, 0, 0, 0, 101, 1, 0, 2, 0, 0);
        row(check, "one hour more is enough", x, 1, 1, 0, 0, 1, 0, 1, 0, 2, 0, 0, 2, 0, 0);
    }

    private static void jobsDontBarOneAnother(Check check) {
        check.about("JOBS don't bar one another");
        CheapHours x = new CheapHours();
        x.price(1, 0, 199, 3);
        for (int i = 0; i < 12; i++) {
            x.job(i < 6 ? 2100100 : 2002100, 3, 2);
        }
        x.go(2);
        check.due("READY ones", x.count(2), 12);
        check.due("all coins", x.count(3), 6 * 6 + 6 * 200);
        for (int i = 0; i < 12; i++) {
            check.due("READY", x.told(i, 10), 2);
        }
    }
}
