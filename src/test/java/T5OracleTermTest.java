/** Term 5: the oracle, at the edges that it names; all values are by hand. */
public final class T5OracleTermTest {
    public static void main(String[] args) {
        Check check = new Check("term 5");
        beginsInTheHourInWhichItCame(check);
        isAtAnyMarketThatLets(check);
        isAtFullOrNowhere(check);
        paysWhateverItsBid(check);
        paysForBringingAndSaving(check);
        bringsBackBehindAnHourNowhere(check);
        bringsBackElsewhere(check);
        bringsNothingIfNothingIsSaved(check);
        givesUpWhatIsSaved(check);
        savesOneHourBehindTheOther(check);
        savesAllThatWasDone(check);
        savesAtOnce(check);
        savesAtFull(check);
        isReadyAsDueBegins(check);
        needsNoSaveAtTheEnd(check);
        tellsTheLeastOfTheMost(check);
        check.end();
    }

    /** A desk with a price in each hour of market 0, -1 where nothing is let. */
    private static CheapHours desk(int... prices) {
        CheapHours x = new CheapHours();
        for (int hour = 0; hour < prices.length; hour++) {
            x.price(0, hour, hour, prices[hour]);
        }
        return x;
    }

    private static void least(Check check, String call, CheapHours x, int what, int due) {
        int number = x.job(what, 0, 60);
        check.due(call, x.oracle(number), due);
    }

    private static void beginsInTheHourInWhichItCame(Check check) {
        check.about("for a JOB (as it came; from the HOUR in which it came)");
        CheapHours x = desk(1, 2, 3, 40, 50);
        least(check, "in 0", x, 1005000, 1);
        x.go(1);
        least(check, "in 1", x, 1005000, 2);
        x.go(1);
        least(check, "in 2", x, 1005000, 3);
        x.go(1);
        least(check, "in 3", x, 1005000, 40);
        least(check, "all that is left", x, 2005000, 90);
        x.go(197);
        check.due("the first one, as it came", x.oracle(0), 1);
        check.due("the second one", x.oracle(1), 2);
        check.due("the last one", x.oracle(4), 90);
        CheapHours last = new CheapHours();
        last.price(1, 198, 198, 1);
        last.price(1, 199, 199, 2);
        last.go(199);
        least(check, "in 199", last, 1200000, 2);
    }

    private static void isAtAnyMarketThatLets(Check check) {
        check.about("it is at any MARKET that lets a machine then");
        CheapHours x = new CheapHours();
        x.price(0, 0, 0, 1);
        x.price(1, 1, 1, 2);
        x.price(2, 2, 2, 4);
        least(check, "one hour at each", x, 3003000, 7);
        least(check, "its own doesn't matter", x, 3003200, 7);
        x.price(1, 1, 1, 0);
        check.due("0 is a price", x.oracle(0), 5);
        x.price(1, 1, 1, -1);
        check.due("none is let", x.oracle(0), 105);
    }

    private static void isAtFullOrNowhere(Check check) {
        check.about("at FULL, or nowhere");
        CheapHours x = desk(99, 100, 101, 999);
        least(check, "99, and 100 three times", x, 4004000, 399);
        least(check, "three of four", x, 3004000, 299);
        least(check, "one of four", x, 1004000, 99);
        least(check, "nothing is let behind", x, 1100000, 99);
        x.go(4);
        least(check, "FULL alone", x, 30034055, 3000);
        least(check, "with hours nowhere", x, 30200055, 3000);
    }

    private static void paysWhateverItsBid(Check check) {
        check.about("whatever its BID");
        CheapHours x = new CheapHours();
        x.price(0, 0, 199, 50);
        x.job(2100000, 0, 1);
        x.job(2100000, 49, 1);
        x.job(2100000, 50, 1);
        x.job(2100000, 999, 1);
        for (int job = 0; job < 4; job++) {
            check.due("oracle", x.oracle(job), 100);
        }
    }

    private static void paysForBringingAndSaving(Check check) {
        check.about("it pays for the HOURS in which it is somewhere");
        CheapHours x = desk(1, 1, 1, 2, -1, -1, 5, 7, 9);
        // three of work and a save; bringing back at 5, two of work at 7 and 9
        least(check, "bringing and saving are paid", x, 5009011, 3 + 2 + 5 + 7 + 9);
        least(check, "BRING 0: two of work at 5 and 7", x, 5009010, 3 + 2 + 5 + 7);
        least(check, "SAVE 0: bringing back at 5, one of work at 7", x, 5009001, 3 + 2 + 5 + 7);
        least(check, "neither: one of work at 5", x, 5009000, 3 + 2 + 5);
    }

    private static void bringsBackBehindAnHourNowhere(Check check) {
        check.about("(or comes to a machine behind an HOUR nowhere) must bring back");
        CheapHours x = desk(1, 1, -1, 1, 1);
        least(check, "BRING 0", x, 4005000, 4);
        least(check, "BRING 1", x, 3005001, 4);
        // two at 1; then at FULL one to bring, and two of work
        least(check, "BRING 1 leaves no time for a fourth", x, 4005001, 302);
        least(check, "BRING 2 leaves no time for a third", x, 3005002, 300);
        CheapHours dear = desk(1, 1, 90, 1, 1);
        least(check, "who stays brings nothing", dear, 3003005, 92);
        least(check, "over the dear hour", dear, 5005005, 94);
    }

    private static void bringsBackElsewhere(Check check) {
        check.about("Who goes elsewhere keeps what is SAVED, and must bring back");
        CheapHours x = new CheapHours();
        x.price(0, 0, 1, 1);
        x.price(1, 2, 4, 1);
        least(check, "BRING 0: two and two", x, 4004000, 4);
        least(check, "BRING 1: two, one to bring, two", x, 4005001, 5);
        least(check, "BRING 2: three anew", x, 3005002, 3);
        CheapHours back = new CheapHours();
        back.price(0, 0, 1, 1);
        back.price(1, 2, 2, 1);
        back.price(0, 3, 3, 1);
        least(check, "BRING 0: there and back", back, 4004000, 4);
    }

    private static void bringsNothingIfNothingIsSaved(Check check) {
        check.about("(BRING HOURS, if something is SAVED)");
        CheapHours x = desk(-1, -1, 3, 4);
        least(check, "BRING 5, behind hours nowhere", x, 2004005, 7);
        least(check, "BRING 5, SAVE 5", x, 2004055, 7);
        least(check, "one hour", x, 1003005, 3);
    }

    private static void givesUpWhatIsSaved(Check check) {
        check.about("or gives up what is SAVED, and begins anew");
        CheapHours x = desk(0, 0, -1, -1, -1, 10, 10, 10, 10, 10);
        // with SAVE 1 one hour is SAVED in 0 and 1; anew all three cost 30
        least(check, "BRING 0: two more", x, 3010010, 20);
        least(check, "BRING 1: one to bring, two more", x, 3010011, 30);
        least(check, "BRING 2: anew", x, 3010012, 30);
        least(check, "BRING 5: anew", x, 3010015, 30);
        CheapHours none = desk(0, 0, -1, 10, 10, 10);
        least(check, "there is time for three anew", none, 3006015, 30);
        least(check, "there is none for four, nor to bring", none, 4006015, 400);
    }

    private static void savesOneHourBehindTheOther(Check check) {
        check.about("a save takes SAVE HOURS, one after the other on one machine");
        CheapHours x = desk(0, 0, -1, 0, 0, -1);
        least(check, "SAVE 1: one hour and a save, then two", x, 3006010, 0);
        least(check, "SAVE 2 isn't through", x, 3006020, 300);
        x.price(0, 2, 2, 7);
        check.due("SAVE 2: three in a row", x.oracle(1), 7);
        CheapHours other = desk(0, 0, -1, 0, 0, -1);
        other.price(1, 2, 2, 0);
        least(check, "another machine doesn't go on with a save", other, 3006020, 300);
    }

    private static void savesAllThatWasDone(Check check) {
        check.about("all that was done is SAVED with its last one");
        CheapHours x = desk(1, 1, 1, 1, 1, 1, -1, 1, 1);
        least(check, "six in a row", x, 6009050, 6);
        least(check, "five and a save, then two", x, 7009010, 8);
        least(check, "five and a save, then three at FULL", x, 8009010, 306);
        least(check, "four and a save of two, then three at FULL", x, 7009020, 306);
    }

    private static void savesAtOnce(Check check) {
        check.about("(SAVE 0: with each HOUR of work, at once)");
        CheapHours x = desk(1, -1, 1, -1, 1, -1, 1);
        least(check, "four hours one by one", x, 4007000, 4);
        least(check, "a save would take one more: FULL", x, 2007010, 200);
        least(check, "with BRING 1 none is left to work: FULL", x, 2007001, 200);
    }

    private static void savesAtFull(Check check) {
        check.about("at FULL, too");
        CheapHours x = desk(-1, 1);
        least(check, "SAVE 0: one at FULL, one at 1", x, 2002000, 101);
        CheapHours saving = new CheapHours();
        saving.price(0, 3, 12, 1);
        // one at FULL, two of saving there, ten at 1; else eleven at FULL
        least(check, "SAVE 2", saving, 11013020, 310);
        least(check, "SAVE 1", saving, 11013010, 210);
    }

    private static void isReadyAsDueBegins(Check check) {
        check.about("WORK is ready if it is done, all of it, as DUE begins");
        CheapHours x = new CheapHours();
        x.price(0, 9, 9, 1);
        x.price(0, 199, 199, 2);
        least(check, "the HOUR before DUE", x, 1010000, 1);
        least(check, "DUE itself is too late", x, 1009000, 100);
        least(check, "both", x, 2010000, 101);
        x.go(10);
        least(check, "199, DUE being 200", x, 1200000, 2);
        least(check, "199, DUE being 199", x, 1199000, 100);
    }

    private static void needsNoSaveAtTheEnd(Check check) {
        check.about("(it needn't be SAVED)");
        CheapHours x = desk(3, 3, 3, -1);
        least(check, "SAVE 0", x, 3004000, 9);
        least(check, "SAVE 1", x, 3004010, 9);
        least(check, "SAVE 5", x, 3004050, 9);
        least(check, "SAVE 5, no HOUR behind it", x, 3003050, 9);
        least(check, "one more is at FULL, all of it", x, 4004050, 400);
    }

    /** The last of thirty hours of work is let alone, in any hour up to the last one. */
    private static void tellsTheLeastOfTheMost(Check check) {
        check.about("The least sum is told, of the greatest WORK and the latest DUE");
        for (int hour = 30; hour < 200; hour++) {
            CheapHours x = new CheapHours();
            x.price(0, 0, 28, 1);
            x.price(2, hour, hour, 2);
            least(check, "SAVE 0, hour " + hour, x, 30200000, 31);
            // 28 and a save at 1, then two at FULL: a save there would cost as much as to work
            least(check, "SAVE 1, hour " + hour, x, 30200010, 229);
        }
        CheapHours dear = new CheapHours();
        dear.full(999);
        least(check, "thirty at the greatest FULL", dear, 30200055, 29970);
    }
}
