import java.util.ArrayList;
import java.util.List;
import java.util.Map;
import java.util.TreeMap;
import java.util.TreeSet;
import java.util.function.Supplier;
import java.util.function.ToLongFunction;

/** What stands at the edges of an argument, and that a refused call leaves no trace. */
final class Edges {
    /** A call with one argument left open; -1 if it is refused. */
    interface Call {
        long with(CheapHours x, int value);
    }

    private static final Map<String, String> SPARED = new TreeMap<>();

    private Edges() {
    }

    /** A boolean answer as those of the other calls: -1 if it is refused. */
    static long asked(boolean taken) {
        return taken ? 1 : -1;
    }

    /** All of least .. most is taken on this desk; what is beyond that is refused on every desk. */
    static void argument(Check check, Supplier<CheapHours> desk, Call call, int least, int most) {
        for (int value = least; value <= most; value++) {
            check.yes("with " + value + " it can be", call.with(desk.get(), value) != -1);
        }
        for (int value : beyond(least, most)) {
            refused(check, "with " + value, x -> call.with(x, value));
        }
    }

    /** On every desk the call is refused, and all that comes later is as if it hadn't been made. */
    static void refused(Check check, String call, ToLongFunction<CheapHours> wrong) {
        for (String name : Desks.ALL.keySet()) {
            CheapHours x = Desks.ALL.get(name).get();
            check.none(call + " on " + name, wrong.applyAsLong(x));
            check.same(call + " on " + name + ": later", Later.answers(x), spared(name));
        }
    }

    /** The same on one kind of desk. */
    static void refusedOn(Check check, String call, Supplier<CheapHours> desk,
            ToLongFunction<CheapHours> wrong) {
        CheapHours x = desk.get();
        check.none(call, wrong.applyAsLong(x));
        check.same(call + ": later", Later.answers(x), Later.answers(desk.get()));
    }

    private static String spared(String name) {
        return SPARED.computeIfAbsent(name, n -> Later.answers(Desks.ALL.get(n).get()));
    }

    /** The first beyond each side, the greatest and the least int, and what would wrap around. */
    static List<Integer> beyond(int least, int most) {
        TreeSet<Long> all = new TreeSet<>(List.of((long) Integer.MIN_VALUE, Integer.MIN_VALUE + 1L,
                -(1L << 30), -(1L << 29), -1000L, least - 1L, most + 1L, 2L * most + 1,
                least + (1L << 8), least + (1L << 16), 1L << 29, 1L << 30, (long) Integer.MAX_VALUE));
        List<Integer> beyond = new ArrayList<>();
        for (long value : all) {
            boolean isInt = value >= Integer.MIN_VALUE && value <= Integer.MAX_VALUE;
            if (isInt && (value < least || value > most)) {
                beyond.add((int) value);
            }
        }
        return beyond;
    }
}
