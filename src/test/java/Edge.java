import java.util.ArrayList;
import java.util.List;
import java.util.function.IntToLongFunction;

/** The edges of a number: the first and the last within, and what is beyond on each side. */
final class Edge {
    private Edge() {
    }

    /** Asks for the least and the greatest, each with the answer due, and for all that is beyond, refused alike. */
    static void of(String name, IntToLongFunction call, int low, long atLow, int high, long atHigh, long refused) {
        Check.due(name + ", least: " + low, call.applyAsLong(low), atLow);
        Check.due(name + ", greatest: " + high, call.applyAsLong(high), atHigh);
        refused(name, call, low, high, refused);
    }

    static void refused(String name, IntToLongFunction call, int low, int high, long refused) {
        for (int n : beyond(low, high)) {
            Check.due(name + ", beyond: " + n, call.applyAsLong(n), refused);
        }
    }

    /** Next to the bounds; the ends of int; numbers that are within once cut to 5 or 6 bits, 1 or 2 bytes. */
    static List<Integer> beyond(int low, int high) {
        long[] near = {low - 1L, high + 1L, Integer.MIN_VALUE, Integer.MAX_VALUE, low + 32L, low + 64L, low + 256L,
            high + 256L, low - 256L, high - 256L, low + 65536L, high - 65536L, low + (1L << 31), high - (1L << 31)};
        List<Integer> all = new ArrayList<>();
        for (long n : near) {
            boolean within = n >= low && n <= high;
            if (!within && n == (int) n && !all.contains((int) n)) {
                all.add((int) n);
            }
        }
        return all;
    }
}
