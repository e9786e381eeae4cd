/** Promise 5: go, and that jobs don't bar one another. */
public final class P05GoTest {
    public static void main(String[] args) {
        Check check = new Check("promise 5");
        CheapHours x = new CheapHours();
        check.due("go(0)", x.go(0), 0);
        check.none("go(-1)", x.go(-1));
        check.none("go(201)", x.go(201));
        check.none("greatest", x.go(Integer.MAX_VALUE));
        check.none("least", x.go(Integer.MIN_VALUE));
        check.due("NOW", x.count(0), 0);
        check.due("go(1)", x.go(1), 1);
        check.due("go(150)", x.go(150), 151);
        check.due("up to 200", x.go(50), 200);
        check.due("go(200)", x.go(200), 200);
        check.due("go(0)", x.go(0), 200);
        check.none("go(201)", x.go(201));
        check.due("go(200) at once", new CheapHours().go(200), 200);
        stepsAreAsOneGo(check);
        jobsDontBarOneAnother(check);
        check.end();
    }

    private static void stepsAreAsOneGo(Check check) {
        CheapHours one = busy();
        CheapHours steps = busy();
        one.go(60);
        for (int i = 0; i < 60; i++) {
            steps.go(1);
        }
        for (int job = 0; job < 3; job++) {
            for (int what = 0; what <= 12; what++) {
                check.due("told(" + job + ", " + what + ")", one.told(job, what), steps.told(job, what));
            }
        }
    }

    private static CheapHours busy() {
        CheapHours x = new CheapHours();
        x.price(0, 0, 10, 5);
        x.price(0, 14, 30, 6);
        x.price(1, 4, 90, 2);
        x.job(12050021, 6, 4);
        x.job(20070113, 3, 6);
        x.job(9055012, 5, 2);
        return x;
    }

    private static void jobsDontBarOneAnother(Check check) {
        CheapHours x = new CheapHours();
        x.price(1, 0, 199, 3);
        for (int i = 0; i < 12; i++) {
            x.job(2100100, 3, 2);
        }
        x.go(2);
        check.due("READY ones", x.count(2), 12);
        check.due("all coins", x.count(3), 72);
    }
}
