import java.util.ArrayList;
import java.util.List;
import java.util.function.Supplier;

/**
 * All that an object can tell of itself. To tell some of it is to change it, so that each part is asked of an
 * object of its own, made alike; no object is asked more than 512 times.
 */
final class Snapshot {
    private final List<Long> answers = new ArrayList<>();

    private Snapshot() {
    }

    static List<Long> of(Supplier<SilenceMatch> made) {
        Snapshot s = new Snapshot();
        s.tellGreen(made.get());
        s.tellMatch(made.get());
        s.tellActs(made.get());
        for (int k = 0; k < 3; k++) {
            s.tellImage(made.get(), k);
        }
        for (int slot = 0; slot < 4; slot++) {
            s.tellRow(made.get(), slot);
        }
        s.tellTape(made.get());
        return s.answers;
    }

    private void add(long answer) {
        answers.add(answer);
    }

    private void tellGreen(SilenceMatch x) {
        for (int what = 0; what <= 13; what++) {
            add(x.count(what));
        }
        add(x.fault(0));
        add(x.fault(1));
        for (int p = 0; p < 8; p++) {
            for (int what = 0; what <= 4; what++) {
                add(x.player(p, what));
            }
        }
        for (int u = 0; u < 4; u++) {
            add(x.umpire(u, 0));
            add(x.umpire(u, 1));
        }
        for (int minute = 1; minute <= 60; minute++) {
            add(x.wind(minute));
            add(x.coughs(minute));
        }
    }

    private void tellMatch(SilenceMatch x) {
        for (int p = 0; p < 8; p++) {
            add(x.out(p));
            add(x.spread(p));
            add(x.chance(p, 0));
        }
        for (int minute = 1; minute <= 60; minute++) {
            add(x.outs(minute));
            add(x.laughs(minute));
        }
        add(x.wins());
        add(x.drawn(77, 0));
        for (int slot = 0; slot < 4; slot++) {
            add(x.fits(slot));
            add(x.spots(slot));
            add(x.who(slot));
        }
    }

    private void tellActs(SilenceMatch x) {
        for (int act = 0; act <= 41; act++) {
            for (int p = 0; p < 3; p++) {
                add(x.player(p, 1));
                add(x.player(p, 2));
            }
            add(x.undo());
        }
    }

    private void tellImage(SilenceMatch x, int k) {
        add(x.back(k));
        for (int what = 0; what <= 11; what++) {
            add(x.count(what));
        }
        for (int p = 3; p < 8; p++) {
            add(x.player(p, 1));
            add(x.player(p, 2));
        }
        tellActs(x);
    }

    private void tellRow(SilenceMatch x, int slot) {
        int spare = (slot + 1) % 4;
        x.end(0);
        Check.tape(x, Slots.EARS);
        add(x.green());
        int width = Slots.width(x, slot, spare);
        add(width);
        for (int i = 0; i <= 60 && width >= 0; i++) {
            add(Slots.number(x, slot, i, spare, width));
        }
    }

    private void tellTape(SilenceMatch x) {
        add(x.count(12));
        add(x.green());
        add(x.fault(0));
        add(x.fault(1));
        for (int what = 0; what <= 12; what++) {
            add(x.count(what));
        }
        for (int p = 0; p < 8; p++) {
            add(x.player(p, 1));
            add(x.player(p, 3));
        }
    }
}
