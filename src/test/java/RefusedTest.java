import java.util.ArrayList;
import java.util.List;
import java.util.function.Supplier;

/**
 * Each call that is refused, in each state in which it is: what it answers, and that all stays as it was. And
 * that a call that only asks changes nothing.
 */
final class RefusedTest {
    /** A call by its arguments. */
    private interface Call {
        long on(SilenceMatch x, int... n);
    }

    /** A state, made anew each time. */
    private record State(String name, boolean green, Supplier<SilenceMatch> made, List<Long> told) {
        State(String name, boolean green, Supplier<SilenceMatch> made) {
            this(name, green, made, Snapshot.of(made));
        }
    }

    /** A method: the bounds of each of its arguments in the greatest GREEN, and what it answers beyond them. */
    private record Method(String name, long refused, boolean needsGreen, Call call, int... bounds) {
    }

    private RefusedTest() {
    }

    public static void main(String[] args) {
        List<State> states = states();
        for (State state : states) {
            for (Method method : methods()) {
                beyondBounds(state, method);
                withoutGreen(state, method);
            }
            asking(state);
        }
        tapeRefusals(states);
        greenRefusals();
        actRefusals(states);
        imageRefusals(states);
        rowRefusals(states);
        Check.finish("RefusedTest");
    }

    // ---- states

    private static List<State> states() {
        List<State> states = new ArrayList<>();
        states.add(new State("new", false, SilenceMatch::new));
        states.add(new State("without a GREEN", false, RefusedTest::bare));
        states.add(new State("some of all", true, RefusedTest::some));
        states.add(new State("behind a FAULT", true, RefusedTest::faulty));
        states.add(new State("full", true, RefusedTest::full));
        return states;
    }

    /** No GREEN any more, but IMAGES, rows and a TAPE. */
    private static SilenceMatch bare() {
        SilenceMatch x = Texts.made(Texts.BASE);
        x.move(0, 5);
        x.image(0);
        x.green();
        x.image(1);
        Slots.row(x, 0, 0, 3, 1);
        Slots.row(x, 3, 3, 2, 0, 1, 1);
        Check.tape(x, Texts.head(2, 2, 5, 1, 1) + Texts.player(0, 3, 1, 4));
        return x;
    }

    private static SilenceMatch some() {
        SilenceMatch x = Texts.made(Texts.BASE);
        x.bell(19);
        x.image(2);
        x.move(0, 5);
        x.lozenge(1, 12);
        x.image(0);
        x.move(2, 0);
        Slots.row(x, 0, 0, 1, 1);
        Slots.row(x, 1, 1, 0, 0, 1, 0);
        x.row(3, 3, 0);
        Check.tape(x, Texts.head(2, 2, 5, 1, 1) + Texts.player(0, 3, 1, 4));
        return x;
    }

    private static SilenceMatch faulty() {
        SilenceMatch x = some();
        x.end(0);
        Check.tape(x, Texts.FULL + "?");
        x.green();
        return x;
    }

    /** As much of all as there may be. */
    private static SilenceMatch full() {
        SilenceMatch x = Texts.made(Texts.FULL);
        x.image(0);
        for (int act = 0; act < 40; act++) {
            if (act == 20) {
                x.image(1);
            }
            if (act % 2 == 0) {
                x.move(act % 3, act % 20);
            } else {
                x.lozenge(act % 3, act % 13);
            }
        }
        x.image(2);
        for (int slot = 0; slot < 4; slot++) {
            fill(x, slot);
        }
        Check.tape(x, Texts.BASE + " ".repeat(900 - Texts.BASE.length()));
        return x;
    }

    /** 1 2 3 1 2 3 .. to the sixtieth. */
    private static void fill(SilenceMatch x, int slot) {
        x.row(slot, slot, 60);
        for (int i = 0; i < 3; i++) {
            x.write(slot, i, i + 1);
        }
        for (int have = 3; have < 60; have *= 2) {
            x.paste(slot, 0, slot, have, Math.min(have, 60 - have));
        }
    }

    /** The answer, and that what the state tells of itself behind the call is what it tells without it. */
    private static void stays(State state, String name, long want, Call call, int... n) {
        stays(state, name, new long[] {want}, call, new int[][] {n});
    }

    /** Several calls, one behind the other. */
    private static void stays(State state, String name, long[] wants, Call call, int[][] calls) {
        List<Long> told = Snapshot.of(() -> {
            SilenceMatch x = state.made().get();
            for (int i = 0; i < calls.length; i++) {
                String label = state.name() + ": " + name + java.util.Arrays.toString(calls[i]);
                Check.due(label, call.on(x, calls[i]), wants[i]);
            }
            return x;
        });
        Check.due(state.name() + ": all stays by " + name, told.equals(state.told()) ? 1 : 0, 1);
    }

    // ---- arguments beyond their bounds, and no GREEN

    private static final int CELL = 19;
    private static final int SEED = 2000000000;

    private static List<Method> methods() {
        List<Method> m = new ArrayList<>();
        m.add(new Method("fault", -1, false, (x, n) -> x.fault(n[0]), 0, 1));
        m.add(new Method("player", -2, true, (x, n) -> x.player(n[0], n[1]), 0, 7, 0, 4));
        m.add(new Method("umpire", -2, true, (x, n) -> x.umpire(n[0], n[1]), 0, 3, 0, 1));
        m.add(new Method("far", -2, true, (x, n) -> x.far(n[0], n[1]), 0, CELL, 0, CELL));
        m.add(new Method("wind", -2, true, (x, n) -> x.wind(n[0]), 1, 60));
        m.add(new Method("ears", -2, true, (x, n) -> x.ears(n[0], n[1]), 0, CELL, 0, 12));
        m.add(new Method("dead", -2, true, (x, n) -> x.dead(n[0]), 0, 12));
        m.add(new Method("quiet", -2, true, (x, n) -> x.quiet(n[0]), 0, CELL));
        m.add(new Method("coughs", -2, true, (x, n) -> x.coughs(n[0]), 1, 60));
        m.add(new Method("out", -2, true, (x, n) -> x.out(n[0]), 0, 7));
        m.add(new Method("outs", -2, true, (x, n) -> x.outs(n[0]), 1, 60));
        m.add(new Method("laughs", -2, true, (x, n) -> x.laughs(n[0]), 1, 60));
        m.add(new Method("finger", -2, true, (x, n) -> x.finger(n[0]), 0, 7));
        m.add(new Method("fingers", -2, true, (x, n) -> x.fingers(n[0]), 0, 3));
        m.add(new Method("score", -2, true, (x, n) -> x.score(n[0], n[1]), 0, 1, 0, 60));
        m.add(new Method("wins", -2, true, (x, n) -> x.wins()));
        m.add(new Method("leads", -2, true, (x, n) -> x.leads()));
        m.add(new Method("last", -2, true, (x, n) -> x.last()));
        m.add(new Method("tries", -2, true, (x, n) -> x.tries(n[0]), 1, 60));
        m.add(new Method("crowd", -2, true, (x, n) -> x.crowd(n[0]), 0, CELL));
        m.add(new Method("near", -2, true, (x, n) -> x.near(n[0]), 0, 7));
        m.add(new Method("gone", -2, true, (x, n) -> x.gone(n[0]), 0, 1));
        m.add(new Method("calm", -2, true, (x, n) -> x.calm()));
        m.add(new Method("chain", -2, true, (x, n) -> x.chain()));
        m.add(new Method("bells", -2, true, (x, n) -> x.bells(n[0]), 0, 1));
        m.add(new Method("fire", -2, true, (x, n) -> x.fire()));
        m.add(new Method("swap", -2, true, (x, n) -> x.swap(n[0]), 0, 1));
        m.add(new Method("groups", -2, true, (x, n) -> x.groups()));
        m.add(new Method("safe", -2, true, (x, n) -> x.safe(n[0]), 0, 7));
        m.add(new Method("place", -2, true, (x, n) -> x.place(n[0]), 0, 7));
        m.add(new Method("lasts", -2, true, (x, n) -> x.lasts(n[0]), 0, 7));
        m.add(new Method("best", -2, true, (x, n) -> x.best(n[0]), 0, 7));
        m.add(new Method("gains", -1000, true, (x, n) -> x.gains(n[0]), 0, 7));
        m.add(new Method("hush", -2, true, (x, n) -> x.hush(n[0]), 0, 7));
        m.add(new Method("cover", -2, true, (x, n) -> x.cover(n[0], n[1]), 0, 9, 1, 12));
        m.add(new Method("covers", -2, true, (x, n) -> x.covers(n[0], n[1], 0), 0, 9, 1, 12));
        m.add(new Method("more", -2, true, (x, n) -> x.more(n[0], n[1]), 0, 9, 1, 12));
        m.add(new Method("spread", -2, true, (x, n) -> x.spread(n[0]), 0, 7));
        m.add(new Method("part", -2, true, (x, n) -> x.part(n[0], n[1]), 0, 7, 0, 7));
        m.add(new Method("parts", -2, true, (x, n) -> x.parts(n[0], n[1]), 0, 7, 0, 7));
        m.add(new Method("grudge", -2, true, (x, n) -> x.grudge()));
        m.add(new Method("fits", -2, true, (x, n) -> x.fits(n[0]), 0, 3));
        m.add(new Method("spots", -2, true, (x, n) -> x.spots(n[0]), 0, 3));
        m.add(new Method("who", -2, true, (x, n) -> x.who(n[0]), 0, 3));
        m.add(new Method("ask", -2, true, (x, n) -> x.ask(n[0]), 0, 3));
        m.add(new Method("leaves", -2, true, (x, n) -> x.leaves(n[0]), 0, 3));
        m.add(new Method("even", -2, true, (x, n) -> x.even()));
        m.add(new Method("evens", -2, true, (x, n) -> x.evens()));
        m.add(new Method("without", -2, true, (x, n) -> x.without(n[0], n[1]), 0, 255, 0, 1));
        m.add(new Method("drop", -2, true, (x, n) -> x.drop(n[0]), 0, 1));
        m.add(new Method("chance", -2, true, (x, n) -> x.chance(n[0], n[1]), 0, 7, 0, 1));
        m.add(new Method("surest", -2, true, (x, n) -> x.surest(n[0]), 0, 1));
        m.add(new Method("sure", -2, true, (x, n) -> x.sure(n[0], n[1]), 0, 7, 0, 100));
        m.add(new Method("move", -2, true, (x, n) -> x.move(n[0], n[1]), 0, 7, 0, CELL));
        m.add(new Method("lozenge", -2, true, (x, n) -> x.lozenge(n[0], n[1]), 0, 7, 0, 12));
        m.add(new Method("undo", -2, true, (x, n) -> x.undo()));
        m.add(new Method("anew", -2, true, (x, n) -> x.anew()));
        m.add(new Method("drawn", -2, true, (x, n) -> x.drawn(n[0], n[1]), 0, SEED, 0, 2));
        m.add(new Method("luck", -2, true, (x, n) -> x.luck(n[0], n[1], n[2]), 0, SEED, 1, 20, 0, 7));
        m.add(new Method("bell", -2, true, (x, n) -> x.bell(n[0]), 1, 60));
        m.add(new Method("count", -1, false, (x, n) -> x.count(n[0]), 0, 13));
        m.add(new Method("image", -2, false, (x, n) -> x.image(n[0]), 0, 2));
        m.add(new Method("back", -2, false, (x, n) -> x.back(n[0]), 0, 2));
        m.add(new Method("row", -2, false, (x, n) -> x.row(n[0], n[1], 1), 0, 3, 0, 3));
        m.add(new Method("row below 0", -2, false, (x, n) -> x.row(n[0], n[1], -1), 0, 3, 0, 3));
        m.add(new Method("write", -2, false, (x, n) -> x.write(n[0], 0, 1), 0, 3));
        m.add(new Method("write beyond", -2, false, (x, n) -> x.write(n[0], -1, 1), 0, 3));
        m.add(new Method("paste", -2, false, (x, n) -> x.paste(n[0], 0, n[1], 0, 1), 0, 3, 0, 3));
        m.add(new Method("paste beyond", -2, false, (x, n) -> x.paste(n[0], -1, n[1], -1, -1), 0, 3, 0, 3));
        return m;
    }

    /** One argument beyond its bounds, the others within. */
    private static void beyondBounds(State state, Method method) {
        int arguments = method.bounds().length / 2;
        for (int a = 0; a < arguments; a++) {
            List<Integer> beyond = Edge.beyond(method.bounds()[2 * a], method.bounds()[2 * a + 1]);
            int[][] calls = new int[beyond.size()][arguments];
            long[] wants = new long[calls.length];
            for (int i = 0; i < calls.length; i++) {
                for (int k = 0; k < arguments; k++) {
                    calls[i][k] = k == a ? beyond.get(i) : method.bounds()[2 * k];
                }
                wants[i] = method.refused();
            }
            stays(state, method.name(), wants, method.call(), calls);
        }
    }

    /** Arguments within their bounds, the least and the greatest, where there is no GREEN. */
    private static void withoutGreen(State state, Method method) {
        if (state.green() || !method.needsGreen()) {
            return;
        }
        int arguments = method.bounds().length / 2;
        int[][] calls = new int[2][arguments];
        for (int k = 0; k < arguments; k++) {
            calls[0][k] = method.bounds()[2 * k];
            calls[1][k] = method.bounds()[2 * k + 1];
        }
        long[] wants = {method.refused(), method.refused()};
        stays(state, method.name(), wants, method.call(), calls);
    }

    /** What only asks, asked of the least and the greatest: whatever it answers, all stays. */
    private static void asking(State state) {
        List<String> doing = List.of("move", "lozenge", "undo", "anew", "bell", "image", "back", "row", "write",
                "write beyond", "paste", "row below 0", "paste beyond");
        for (Method method : methods()) {
            if (doing.contains(method.name())) {
                continue;
            }
            List<Long> told = Snapshot.of(() -> {
                SilenceMatch x = state.made().get();
                int[] least = new int[method.bounds().length / 2];
                int[] greatest = least.clone();
                for (int k = 0; k < least.length; k++) {
                    least[k] = method.bounds()[2 * k];
                    greatest[k] = method.bounds()[2 * k + 1];
                }
                method.call().on(x, least);
                method.call().on(x, greatest);
                return x;
            });
            Check.due(state.name() + ": asking " + method.name() + " changes nothing", told.equals(state.told()) ? 1 : 0, 1);
        }
    }

    // ---- what is refused in some states alone

    /** 2, 3: a TAPE that is full, and bytes that it has not. */
    private static void tapeRefusals(List<State> states) {
        for (State state : states) {
            int size = state.made().get().count(12);
            int[][] beyond = {{size + 1}, {-1}, {901}, {Integer.MAX_VALUE}, {Integer.MIN_VALUE}, {size + 256}, {-256}};
            stays(state, "end", new long[] {-1, -1, -1, -1, -1, -1, -1}, (x, n) -> x.end(n[0]), beyond);
            stays(state, "end of all", size, (x, n) -> x.end(n[0]), size);
        }
        State full = states.get(4);
        stays(full, "feed", new long[] {-1, -1}, (x, n) -> x.feed(n[0], n[0], n[0], n[0], n[0]), new int[][] {{-1}, {0}});
    }

    /** 4: a FAULT, again; only what fault() tells of the latest green() may be another one. */
    private static void greenRefusals() {
        for (String text : new String[] {"?", "green wide 6", Texts.BASE + "green", Texts.FULL + Texts.wind(1, 1), "green"}) {
            Supplier<SilenceMatch> made = () -> {
                SilenceMatch x = some();
                x.end(0);
                Check.tape(x, text);
                return x;
            };
            Supplier<SilenceMatch> once = () -> {
                SilenceMatch x = made.get();
                Check.due("green() of " + text, x.green(), -4);
                return x;
            };
            Supplier<SilenceMatch> twice = () -> {
                SilenceMatch x = once.get();
                Check.due("green() again of " + text, x.green(), -4);
                return x;
            };
            List<Long> ahead = Snapshot.of(made);
            List<Long> behind = Snapshot.of(once);
            Check.due("all stays by a FAULT twice: " + text, Snapshot.of(twice).equals(behind) ? 1 : 0, 1);
            // The first FAULT and its place are answers 14 and 15.
            ahead.set(14, behind.get(14));
            ahead.set(15, behind.get(15));
            Check.due("all stays by a FAULT: " + text, ahead.equals(behind) ? 1 : 0, 1);
        }
    }

    /** 58 to 60, 64: forty acts, no acts, acts that are not taken back. */
    private static void actRefusals(List<State> states) {
        State full = states.get(4);
        for (int p = 0; p < 8; p++) {
            stays(full, "move", -5, (x, n) -> x.move(n[0], n[1]), p, 19);
            stays(full, "lozenge", -5, (x, n) -> x.lozenge(n[0], n[1]), p, 12);
        }
        stays(full, "bell", new long[] {-5, -5}, (x, n) -> x.bell(n[0]), new int[][] {{1}, {60}});
        State some = states.get(2);
        stays(some, "bell", new long[] {-5, -5}, (x, n) -> x.bell(n[0]), new int[][] {{1}, {60}});
        State none = new State("no acts", true, () -> Texts.made(Texts.BASE));
        stays(none, "undo", new long[] {-5, -5}, (x, n) -> x.undo(), new int[2][0]);
        stays(none, "anew", 0, (x, n) -> x.anew());
        State back = new State("acts taken back", true, () -> {
            SilenceMatch x = some();
            x.anew();
            return x;
        });
        stays(back, "undo", -5, (x, n) -> x.undo());
        stays(back, "anew", 0, (x, n) -> x.anew());
    }

    /** 67: IMAGES that have nothing. */
    private static void imageRefusals(List<State> states) {
        stays(states.get(0), "back", new long[] {-6, -6, -6}, (x, n) -> x.back(n[0]), new int[][] {{0}, {1}, {2}});
        stays(states.get(1), "back", -6, (x, n) -> x.back(n[0]), 2);
        stays(states.get(2), "back", -6, (x, n) -> x.back(n[0]), 1);
        stays(states.get(3), "back", -6, (x, n) -> x.back(n[0]), 1);
    }

    /** 46 to 50, 68 to 70: SLOTS that have nothing, numbers beyond, rows of unlike WIDTHS. */
    private static void rowRefusals(List<State> states) {
        for (State state : states) {
            for (int slot = 0; slot < 4; slot++) {
                for (int width = 0; width < 4; width++) {
                    stays(state, "row", new long[] {-3, -3, -2, -2}, (x, n) -> x.row(n[0], n[1], n[2]),
                            new int[][] {{slot, width, -1}, {slot, width, Integer.MIN_VALUE}, {slot, width, 61},
                                {slot, width, Integer.MAX_VALUE}});
                }
            }
        }
        State some = states.get(2);
        stays(some, "write to nothing", new long[] {-6, -6}, (x, n) -> x.write(n[0], n[1], 1), new int[][] {{2, 0}, {2, -1}});
        stays(some, "write beyond", new long[] {-7, -7, -7, -7, -7}, (x, n) -> x.write(n[0], n[1], 1),
                new int[][] {{0, 2}, {0, -1}, {1, 4}, {3, 0}, {1, Integer.MIN_VALUE}});
        stays(some, "paste of nothing", new long[] {-6, -6, -6}, (x, n) -> x.paste(n[0], 0, n[1], 0, 1),
                new int[][] {{2, 0}, {0, 2}, {2, 2}});
        stays(some, "paste of unlike ones", new long[] {-8, -8, -8}, (x, n) -> x.paste(n[0], 0, n[1], 0, 1),
                new int[][] {{0, 1}, {1, 3}, {3, 0}});
        stays(some, "paste beyond", new long[] {-7, -7, -7, -7}, (x, n) -> x.paste(1, n[0], 1, n[1], n[2]),
                new int[][] {{0, 1, 4}, {1, 0, 4}, {0, 0, 5}, {1, 3, 2}});
        stays(some, "paste of none", new long[] {0, 0}, (x, n) -> x.paste(n[0], n[1], n[0], n[1], 0),
                new int[][] {{1, 4}, {3, 0}});
        stays(some, "fits of nothing", -6, (x, n) -> x.fits(n[0]), 2);
        stays(some, "leaves of nothing", -6, (x, n) -> x.leaves(n[0]), 2);
        State full = states.get(4);
        stays(full, "write beyond", new long[] {-7, -7, -7, -7}, (x, n) -> x.write(n[0], n[1], 0),
                new int[][] {{0, 60}, {1, 60}, {2, -1}, {3, Integer.MAX_VALUE}});
        stays(full, "paste beyond", new long[] {-7, -7, -7, -7}, (x, n) -> x.paste(n[0], n[1], n[0], n[2], n[3]),
                new int[][] {{0, 0, 1, 60}, {1, 1, 0, 60}, {2, 0, 0, 61}, {3, 59, 0, 2}});
    }
}
