import java.util.LinkedHashMap;
import java.util.Map;
import java.util.function.Supplier;

/** Desks as they may stand when a call comes, each made anew. */
final class Desks {
    /** By name: nothing there yet, something there, all that may come has come. */
    static final Map<String, Supplier<CheapHours>> ALL = new LinkedHashMap<>();

    static {
        ALL.put("a new desk", CheapHours::new);
        ALL.put("a desk with prices and levels", Desks::laidOut);
        ALL.put("a busy desk", Desks::busy);
        ALL.put("a desk with twelve jobs", Desks::crowded);
        ALL.put("a desk behind its last hour", Desks::over);
    }

    private Desks() {
    }

    /** NOW is 0, and no job came. */
    static CheapHours laidOut() {
        CheapHours x = new CheapHours();
        x.full(40);
        x.price(0, 0, 199, 3);
        x.price(1, 0, 149, 5);
        x.price(2, 20, 199, 7);
        x.levels(3);
        x.level(0, 10, 234);
        x.level(1, 20, 35);
        x.level(2, 60, 109);
        return x;
    }

    /** NOW is 9; job 0 is READY, 1 is at its market with a part unsaved, 2 at FULL, 3 waits. */
    static CheapHours busy() {
        CheapHours x = laidOut();
        x.job(2100000, 3, 1);
        x.job(12150121, 5, 4);
        x.job(10012200, 9, 1);
        x.job(5180011, 2, 2);
        x.go(9);
        return x;
    }

    /** NOW is 3. */
    static CheapHours crowded() {
        CheapHours x = laidOut();
        for (int i = 0; i < 12; i++) {
            x.job((i + 1) * 1000000 + (20 + i * 3) * 1000 + i % 3 * 100 + i % 5 * 10 + i % 4, 5, 2);
        }
        x.go(3);
        return x;
    }

    static CheapHours over() {
        CheapHours x = busy();
        x.go(200);
        return x;
    }
}
