/** Promise 5: go. */
public final class P05GoTest {
    public static void main(String[] args) {
        Check check = new Check("promise 5");
        passesHours(check);
        passesNone(check);
        goesUpTo200(check);
        refusesAnother(check);
        stepsAreAsOneGo(check);
        check.end();
    }

    private static void passesHours(Check check) {
        check.about("n HOURS pass: NOW");
        for (int n = 0; n <= 200; n++) {
            CheapHours x = new CheapHours();
            x.job(1200000, 0, 1);
            check.due("go(" + n + ")", x.go(n), n);
            check.due("NOW", x.count(0), n);
            check.due("it WAITED in each", x.told(0, 6), Math.min(n, 199));
        }
        CheapHours x = new CheapHours();
        check.due("go(1)", x.go(1), 1);
        check.due("go(150)", x.go(150), 151);
        check.due("go(48)", x.go(48), 199);
        check.due("go(1)", x.go(1), 200);
    }

    private static void passesNone(Check check) {
        check.about("n HOURS pass (0 ..)");
        for (String name : Desks.ALL.keySet()) {
            CheapHours x = Desks.ALL.get(name).get();
            check.due("go(0) on " + name, x.go(0), x.count(0));
            check.same("later", Later.answers(x), Later.answers(Desks.ALL.get(name).get()));
        }
    }

    private static void goesUpTo200(Check check) {
        check.about("n HOURS pass (up to 200)");
        for (int now : new int[] {0, 1, 100, 199, 200}) {
            int left = 200 - now;
            check.due("as many as are left", at(now).go(left), 200);
            check.due("the most", at(now).go(200), 200);
            if (left < 200) {
                check.due("one more than are left", at(now).go(left + 1), 200);
            }
        }
        CheapHours x = at(200);
        x.go(200);
        check.due("NOW stays", x.count(0), 200);
        check.due("it WAITED in 0 .. 198", x.told(0, 6), 199);
        check.due("and was READY behind 199", x.told(0, 10), 200);
        check.due("HOURS at FULL", x.told(0, 8), 1);
    }

    private static CheapHours at(int now) {
        CheapHours x = new CheapHours();
        x.job(1200000, 0, 1);
        x.go(now);
        return x;
    }

    private static void refusesAnother(Check check) {
        check.about("NONE for another n");
        Edges.argument(check, CheapHours::new, (x, n) -> x.go(n), 0, 200);
        Edges.refusedOn(check, "go(-1) behind an hour", () -> at(5), x -> x.go(-1));
        Edges.refusedOn(check, "go(201) at 200", () -> at(200), x -> x.go(201));
    }

    private static void stepsAreAsOneGo(Check check) {
        check.about("n HOURS pass, one by one or at once");
        CheapHours one = jobs();
        CheapHours steps = jobs();
        one.go(60);
        for (int i = 0; i < 60; i++) {
            steps.go(1);
        }
        check.same("told", Later.answers(one), Later.answers(steps));
    }

    private static CheapHours jobs() {
        CheapHours x = new CheapHours();
        x.price(0, 0, 10, 5);
        x.price(0, 14, 30, 6);
        x.price(1, 4, 90, 2);
        x.job(12050021, 6, 4);
        x.job(20070113, 3, 6);
        x.job(9055012, 5, 2);
        return x;
    }
}
