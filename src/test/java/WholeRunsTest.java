import java.lang.reflect.Method;
import java.util.ArrayList;
import java.util.Arrays;
import java.util.HashMap;
import java.util.List;
import java.util.Map;
import java.util.Random;

/**
 * Whole runs of 512 calls, any call in any order, with arguments within and beyond their bounds: SilenceMatch and
 * PlainWhole must answer each alike. What one act, IMAGE, bell, FAULT or row leaves behind for later calls shows here.
 */
final class WholeRunsTest {
    private static final int CALLS = 512;

    /**
     * Each call with what its arguments are: P a PLAYER, U an UMPIRE, C a CELL, M a minute, L a loudness, D a SIDE,
     * S a SLOT, W what, V a WIDTH, N a place in a row, K an IMAGE, X a value, T a set, E a seed, H hundredths, F few.
     */
    private static final String[] CALLS_ASKED = {"fault W", "player P W", "umpire U W", "far C C", "wind M", "ears C L",
        "dead L", "quiet C", "coughs M", "out P", "outs M", "laughs M", "finger P", "fingers U", "score D M", "wins",
        "leads", "last", "tries M", "crowd C", "near P", "gone D", "calm", "chain", "bells D", "fire", "swap D",
        "groups", "safe P", "place P", "lasts P", "best P", "gains P", "hush P", "cover F L", "covers F L F",
        "more F L", "spread P", "part P P", "parts P P", "grudge", "fits S", "spots S", "who S", "ask S", "leaves S",
        "even", "evens", "without T D", "drop D", "chance P W", "surest D", "sure P H", "drawn E W", "luck E F P",
        "count W", "end N"};
    private static final String[] CALLS_DOING = {"move P C", "move P C", "lozenge P L", "lozenge P L", "undo", "anew",
        "bell M", "image K", "back K", "row S V N", "write S N X", "write S N X", "write S N X", "paste S N S N N"};
    private static final String[] CALLS_HEARD = {"fits", "spots", "who", "ask", "leaves"};

    private static final Map<String, Method> METHODS = new HashMap<>();

    private final Random random;
    private final SilenceMatch x = new SilenceMatch();
    private final PlainWhole plain = new PlainWhole();
    private final List<String> done = new ArrayList<>();

    private WholeRunsTest(long seed) {
        random = new Random(seed);
    }

    public static void main(String[] args) throws ReflectiveOperationException {
        for (Method m : SilenceMatch.class.getMethods()) {
            if (m.getDeclaringClass() == SilenceMatch.class) {
                METHODS.put(m.getName(), m);
            }
        }
        everyCallIsAsked();
        int runs = args.length > 0 ? Integer.parseInt(args[0]) : 150;
        for (int seed = 0; seed < runs; seed++) {
            new WholeRunsTest(seed).run();
        }
        Check.finish("WholeRunsTest");
    }

    private static void everyCallIsAsked() {
        List<String> all = new ArrayList<>(Arrays.asList(CALLS_ASKED));
        all.addAll(Arrays.asList(CALLS_DOING));
        all.add("feed");
        all.add("green");
        for (String name : METHODS.keySet()) {
            Check.due(name + " is asked", all.stream().anyMatch(c -> c.split(" ")[0].equals(name)) ? 1 : 0, 1);
        }
    }

    private void run() throws ReflectiveOperationException {
        while (done.size() < CALLS) {
            int choice = random.nextInt(100);
            if (choice < 2 || done.isEmpty() || plain.green() == null && choice < 25) {
                tell();
            } else if (choice < 22) {
                call(CALLS_DOING[random.nextInt(CALLS_DOING.length)]);
            } else if (choice < 24) {
                heard();
            } else if (choice < 25 && random.nextInt(4) == 0) {
                manyActs();
            } else {
                call(CALLS_ASKED[random.nextInt(CALLS_ASKED.length)]);
            }
        }
    }

    private void ask(String name, long... arguments) throws ReflectiveOperationException {
        if (done.size() >= CALLS) {
            return;
        }
        Method m = METHODS.get(name);
        Object[] boxed = new Object[arguments.length];
        for (int i = 0; i < boxed.length; i++) {
            if (m.getParameterTypes()[i] == long.class) {
                boxed[i] = arguments[i];
            } else {
                boxed[i] = (int) arguments[i];
            }
        }
        done.add(name + Arrays.toString(arguments));
        long got = ((Number) m.invoke(x, boxed)).longValue();
        long want = plain.answer(name, arguments);
        Check.due(got == want ? name : lastCalls(), got, want);
    }

    private String lastCalls() {
        return done.size() + " calls, at last " + done.subList(Math.max(0, done.size() - 4), done.size()) + ", now on "
                + (plain.green() == null ? "no green" : plain.green().text());
    }

    private void call(String told) throws ReflectiveOperationException {
        String[] parts = told.split(" ");
        long[] arguments = new long[parts.length - 1];
        for (int i = 0; i < arguments.length; i++) {
            arguments[i] = argument(parts[i + 1].charAt(0));
        }
        ask(parts[0], arguments);
    }

    private long argument(char kind) {
        int edge = random.nextInt(60);
        if (edge == 0) {
            return random.nextBoolean() ? Integer.MIN_VALUE : Integer.MAX_VALUE;
        }
        if (edge == 1) {
            return -1;
        }
        PlainMatch g = plain.green();
        switch (kind) {
            case 'P':
                return upTo(g == null || random.nextInt(20) == 0 ? 8 : Math.max(0, g.players.size() - 1));
            case 'U':
                return upTo(4);
            case 'C':
                return upTo(g == null || random.nextInt(20) == 0 ? 20 : g.cells() - 1);
            case 'M':
                return upTo(g == null || random.nextInt(6) == 0 ? 61 : g.bell + 1);
            case 'L':
                return upTo(random.nextInt(20) == 0 ? 13 : 12);
            case 'D':
                return upTo(random.nextInt(20) == 0 ? 2 : 1);
            case 'S':
                return upTo(random.nextInt(20) == 0 ? 4 : 3);
            case 'W':
                return random.nextInt(3) == 0 ? upTo(14) : upTo(2);
            case 'V':
                return upTo(random.nextInt(9) == 0 ? 4 : 1);
            case 'N':
                return random.nextInt(6) == 0 ? upTo(62) : upTo(8);
            case 'K':
                return upTo(random.nextInt(20) == 0 ? 3 : 2);
            case 'X':
                return random.nextInt(3) == 0 ? random.nextLong() : upTo(3) + (random.nextInt(4) == 0 ? 1L << 32 : 0);
            case 'T':
                return upTo(random.nextInt(9) == 0 || g == null ? 256 : (1 << g.players.size()) - 1);
            case 'E':
                return random.nextInt(3) == 0 ? upTo(40) : random.nextInt(2000000002);
            case 'H':
                return upTo(101);
            default:
                return random.nextInt(20) == 0 ? upTo(21) : upTo(9);
        }
    }

    private int upTo(int most) {
        return random.nextInt(most + 1);
    }

    /** A row that tells of ears, so that it is not refused, and what of it is pasted into a row of its WIDTH. */
    private void heard() throws ReflectiveOperationException {
        int slot = upTo(3);
        int width = upTo(3);
        int pairs = upTo(4);
        ask("row", slot, width, 2 * pairs);
        for (int i = 0; i < pairs; i++) {
            ask("write", slot, 2 * i, upTo(plain.green() == null ? 3 : Math.max(0, plain.green().umpires.size() - 1)));
            ask("write", slot, 2 * i + 1, upTo(1));
        }
        askHeard(slot);
        int to = upTo(3);
        int size = to == slot ? 2 * pairs : 2 * upTo(4);
        if (to != slot) {
            ask("row", to, width, size);
        }
        int n = upTo(Math.min(2 * pairs, size));
        ask("paste", slot, upTo(2 * pairs - n), to, upTo(size - n), n);
        askHeard(to);
    }

    private void askHeard(int slot) throws ReflectiveOperationException {
        for (String name : CALLS_HEARD) {
            ask(name, slot);
        }
    }

    /** As many acts as there may be, and some that are too many. */
    private void manyActs() throws ReflectiveOperationException {
        for (int i = 0; i < 42; i++) {
            call(random.nextBoolean() ? "move P C" : "lozenge P L");
        }
    }

    /** Feeds a text, mostly a whole one, mostly onto an empty TAPE. */
    private void tell() throws ReflectiveOperationException {
        if (random.nextInt(8) != 0) {
            ask("end", 0);
        }
        int before = (int) plain.answer("count", 12);
        byte[] text = text();
        byte[] padded = Arrays.copyOf(text, (text.length + 19) / 20 * 20);
        for (int i = 0; i < padded.length; i += 20) {
            ask("feed", Check.number(padded, i), Check.number(padded, i + 4), Check.number(padded, i + 8),
                    Check.number(padded, i + 12), Check.number(padded, i + 16));
        }
        ask("end", before + text.length);
        ask("green");
        ask("fault", 0);
        ask("fault", 1);
        ask("count", 11);
        ask("count", 12);
    }

    private byte[] text() {
        StringBuilder b = new StringBuilder(AgainstPlainTest.randomGreen(random).text());
        if (random.nextInt(12) == 0) {
            b.setLength(0);
        }
        for (int changes = random.nextInt(3) == 0 ? 1 + upTo(2) : 0; changes > 0 && b.length() > 0; changes--) {
            int at = upTo(b.length() - 1);
            switch (random.nextInt(5)) {
                case 0:
                    b.setCharAt(at, (char) random.nextInt(256));
                    break;
                case 1:
                    b.setLength(at);
                    break;
                case 2:
                    b.deleteCharAt(at);
                    break;
                case 3:
                    b.insert(at, (char) ('0' + random.nextInt(12)));
                    break;
                default:
                    int to = Math.min(b.length(), at + upTo(40));
                    b.insert(at, b.substring(at, to));
                    break;
            }
        }
        byte[] bytes = new byte[b.length()];
        for (int i = 0; i < bytes.length; i++) {
            bytes[i] = (byte) b.charAt(i);
        }
        return bytes;
    }
}
