/** 'What is refused changes nothing', by calls at random; and no call throws, whatever it is given. */
public final class RefusedTest {
    private static final int[] ODD = {Integer.MIN_VALUE, -1000000, -2, -1, 0, 1, 2, 3, 5, 6, 7, 10, 11,
        12, 13, 60, 61, 199, 200, 201, 999, 1000, 5010012, 30200255, 1000000000, Integer.MAX_VALUE};

    public static void main(String[] args) {
        Check check = new Check("what is refused, and what is asked");
        desksAreAsTheySay(check);
        refusedCallsChangeNothing(check);
        askingChangesNothing(check);
        answersUpToThe512thCall(check);
        neverThrows(check);
        check.end();
    }

    /** The other tests lean on these desks: they are as their comments say. */
    private static void desksAreAsTheySay(Check check) {
        check.about("the desks of the tests");
        CheapHours x = Desks.busy();
        check.due("NOW", x.count(0), 9);
        check.due("READY", x.told(0, 10), 2);
        check.due("a part unsaved", x.told(1, 1), 3);
        check.due("at its market", x.told(1, 9), 1);
        check.due("at FULL", x.told(2, 9), 2);
        check.due("it waits", x.told(3, 6), 9);
        check.due("twelve came", Desks.crowded().count(1), 12);
        check.due("no job came", Desks.laidOut().count(1), 0);
        check.due("NOW is 200", Desks.over().count(0), 200);
    }

    /** Ten calls at random: the twin gets only those that were taken. */
    private static void refusedCallsChangeNothing(Check check) {
        check.about("What is refused changes nothing");
        Dice dice = new Dice(3);
        for (int run = 0; run < 120; run++) {
            for (String name : Desks.ALL.keySet()) {
                CheapHours x = Desks.ALL.get(name).get();
                CheapHours twin = Desks.ALL.get(name).get();
                for (int i = 0; i < 10; i++) {
                    int call = dice.roll(0, 5);
                    int[] with = {odd(dice), odd(dice), odd(dice), odd(dice)};
                    if (change(x, call, with)) {
                        check.yes("taken, too", change(twin, call, with));
                    }
                }
                check.same("later on " + name, Later.answers(x), Later.answers(twin));
            }
        }
    }

    private static int odd(Dice dice) {
        return ODD[dice.roll(0, ODD.length - 1)];
    }

    /** Whether it was taken. */
    private static boolean change(CheapHours x, int call, int[] with) {
        switch (call) {
            case 0:
                return x.price(with[0], with[1], with[2], with[3]);
            case 1:
                return x.full(with[0]);
            case 2:
                return x.job(with[0], with[1], with[2]) != -1;
            case 3:
                return x.go(with[0]) != -1;
            case 4:
                return x.levels(with[0]);
            default:
                return x.level(with[0], with[1], with[2]);
        }
    }

    private static void askingChangesNothing(Check check) {
        check.about("promises 6 to 8 and 11 to 16: what is asked changes nothing");
        Dice dice = new Dice(5);
        for (int run = 0; run < 60; run++) {
            for (String name : Desks.ALL.keySet()) {
                CheapHours x = Desks.ALL.get(name).get();
                for (int i = 0; i < 80; i++) {
                    ask(x, dice, dice.oneIn(2));
                }
                check.same("later on " + name, Later.answers(x), Later.answers(Desks.ALL.get(name).get()));
            }
        }
    }

    private static void ask(CheapHours x, Dice dice, boolean ordinary) {
        int a = ordinary ? dice.roll(0, 12) : odd(dice);
        int b = ordinary ? dice.roll(0, 12) : odd(dice);
        int c = ordinary ? dice.roll(0, 2) : odd(dice);
        int d = ordinary ? dice.roll(0, 99) : odd(dice);
        switch (dice.roll(0, 8)) {
            case 0 -> x.told(a, b);
            case 1 -> x.span(a, c, b);
            case 2 -> x.mean(a, c, b, 1, c);
            case 3 -> x.table(a, b, c);
            case 4 -> x.rule(a, b, c);
            case 5 -> x.worst(a, b, c);
            case 6 -> x.capped(a, b, c, d);
            case 7 -> x.oracle(a);
            default -> x.count(a);
        }
    }

    private static void answersUpToThe512thCall(Check check) {
        check.about("An object is used for at most 512 calls after it has been made");
        CheapHours x = new CheapHours();
        x.price(0, 0, 199, 2);
        x.job(30200000, 2, 7);
        for (int i = 0; i < 507; i++) {
            x.price(1, 0, 199, i);
        }
        check.due("the 510th", x.oracle(0), 60);
        check.due("the 511th", x.go(30), 30);
        check.due("the 512th", x.told(0, 10), 30);
    }

    private static void neverThrows(Check check) {
        check.about("no call throws");
        Dice dice = new Dice(4);
        for (int run = 0; run < 60; run++) {
            for (String name : Desks.ALL.keySet()) {
                CheapHours x = Desks.ALL.get(name).get();
                for (int i = 0; i < 512; i++) {
                    anyCall(check, x, dice);
                }
                check.yes("NOW is one", x.count(0) >= 0 && x.count(0) <= 200);
            }
        }
    }

    private static void anyCall(Check check, CheapHours x, Dice dice) {
        try {
            if (dice.oneIn(3)) {
                change(x, dice.roll(0, 5), new int[] {odd(dice), odd(dice), odd(dice), odd(dice)});
            } else {
                ask(x, dice, dice.oneIn(2));
            }
        } catch (Throwable t) {
            check.fault("a call threw " + t);
        }
    }
}
