import java.util.ArrayList;
import java.util.Collections;
import java.util.List;
import java.util.Random;
import java.util.function.ToLongFunction;

/** What a call answers doesn't hang on which others were asked ahead of it: all of them, in many orders. */
final class AnyOrderTest {
    private static final String GREEN = "green wide 3 high 2 bell 20 laugh 2 odds 5;"
            + "player on 0 at 0 loud 1 every 4; player on 0 at 1 loud 0 every 5; player on 1 at 4 loud 2 every 6;"
            + "player on 1 at 5 loud 1 every 7; player on 0 at 4 loud 1 every 9; umpire at 0 deaf 0;"
            + "umpire at 2 deaf 1; wind from 4 to 5; friends 0 1; friends 1 3;";

    private record Ask(String name, ToLongFunction<SilenceMatch> call) {
    }

    private AnyOrderTest() {
    }

    public static void main(String[] args) {
        List<Ask> asks = asks();
        long[] due = new long[asks.size()];
        for (int i = 0; i < due.length; i++) {
            due[i] = asks.get(i).call().applyAsLong(made());
        }
        List<Integer> order = new ArrayList<>();
        for (int i = 0; i < due.length; i++) {
            order.add(i);
        }
        Random random = new Random(7);
        for (int round = 0; round < 300; round++) {
            Collections.shuffle(order, random);
            SilenceMatch x = made();
            for (int i : order) {
                Check.due(asks.get(i).name(), asks.get(i).call().applyAsLong(x), due[i]);
            }
        }
        handmade(asks, due);
        Check.finish("AnyOrderTest");
    }

    private static SilenceMatch made() {
        SilenceMatch x = Check.green(GREEN, 11);
        x.row(0, 0, 4);
        x.write(0, 2, 1);
        x.write(0, 3, 1);
        x.row(1, 0, 0);
        return x;
    }

    /** Answers of a new object must be right too: the MATCH's ones, by hand. */
    private static void handmade(List<Ask> asks, long[] due) {
        String[] names = {"out 0", "out 1", "out 2", "out 3", "out 4", "outs 8", "laughs 9", "finger 3", "fingers 0",
            "score 0 8", "wins", "leads", "last", "tries 7", "gone 0", "gone 1", "calm", "chain", "bells 0"};
        long[] wants = {8, 9, 6, 10, -1, 1, 2, 1, 3, 2, 0, 10, 10, 8, -1, 10, 10, 2, 1};
        for (int k = 0; k < names.length; k++) {
            for (int i = 0; i < due.length; i++) {
                if (asks.get(i).name().equals(names[k])) {
                    Check.due("by hand, " + names[k], due[i], wants[k]);
                }
            }
        }
    }

    private static List<Ask> asks() {
        List<Ask> asks = new ArrayList<>();
        for (int p = 0; p < 5; p++) {
            int player = p;
            asks.add(new Ask("out " + p, x -> x.out(player)));
            asks.add(new Ask("finger " + p, x -> x.finger(player)));
            asks.add(new Ask("safe " + p, x -> x.safe(player)));
            asks.add(new Ask("place " + p, x -> x.place(player)));
            asks.add(new Ask("lasts " + p, x -> x.lasts(player)));
            asks.add(new Ask("best " + p, x -> x.best(player)));
            asks.add(new Ask("gains " + p, x -> x.gains(player)));
            asks.add(new Ask("hush " + p, x -> x.hush(player)));
            asks.add(new Ask("chance " + p, x -> x.chance(player, 1)));
            asks.add(new Ask("sure " + p, x -> x.sure(player, 60)));
            asks.add(new Ask("luck " + p, x -> x.luck(77, 9, player)));
            asks.add(new Ask("part " + p, x -> x.part(player, 0)));
            asks.add(new Ask("parts " + p, x -> x.parts(player, 3)));
            asks.add(new Ask("near " + p, x -> x.near(player)));
        }
        for (int m = 4; m <= 12; m++) {
            int minute = m;
            asks.add(new Ask("outs " + m, x -> x.outs(minute)));
            asks.add(new Ask("laughs " + m, x -> x.laughs(minute)));
            asks.add(new Ask("tries " + m, x -> x.tries(minute)));
            asks.add(new Ask("score 0 " + m, x -> x.score(0, minute)));
            asks.add(new Ask("cover " + m, x -> x.cover(minute - 4, 4)));
            asks.add(new Ask("covers " + m, x -> x.covers(minute - 4, 4, 0)));
            asks.add(new Ask("drawn " + m, x -> x.drawn(minute, minute % 3)));
            asks.add(new Ask("without " + m, x -> x.without(minute, minute % 2)));
        }
        for (int s = 0; s < 2; s++) {
            int side = s;
            asks.add(new Ask("fingers " + s, x -> x.fingers(side)));
            asks.add(new Ask("gone " + s, x -> x.gone(side)));
            asks.add(new Ask("bells " + s, x -> x.bells(side)));
            asks.add(new Ask("swap " + s, x -> x.swap(side)));
            asks.add(new Ask("drop " + s, x -> x.drop(side)));
            asks.add(new Ask("surest " + s, x -> x.surest(side)));
            asks.add(new Ask("fits " + s, x -> x.fits(side)));
            asks.add(new Ask("spots " + s, x -> x.spots(side)));
            asks.add(new Ask("who " + s, x -> x.who(side)));
            asks.add(new Ask("ask " + s, x -> x.ask(side)));
            asks.add(new Ask("leaves " + s, x -> x.leaves(side)));
        }
        asks.add(new Ask("wins", SilenceMatch::wins));
        asks.add(new Ask("leads", SilenceMatch::leads));
        asks.add(new Ask("last", SilenceMatch::last));
        asks.add(new Ask("calm", SilenceMatch::calm));
        asks.add(new Ask("chain", SilenceMatch::chain));
        asks.add(new Ask("fire", SilenceMatch::fire));
        asks.add(new Ask("grudge", SilenceMatch::grudge));
        asks.add(new Ask("groups", SilenceMatch::groups));
        asks.add(new Ask("even", SilenceMatch::even));
        asks.add(new Ask("evens", SilenceMatch::evens));
        return asks;
    }
}
