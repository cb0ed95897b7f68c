/** Every promise by numbers that were worked out by hand: ordinary calls, edges, wrong inputs. */
final class PromisesTest {
    private static final int MIN = Integer.MIN_VALUE;
    private static final int MAX = Integer.MAX_VALUE;

    /** CELLS 0 1 2 / 3 4 5. OUT: 2 in minute 6, 0 in 8, 1 (laughing) in 9, 3 (laughing) in 10. */
    private static final String BASE = "green wide 3 high 2 bell 20 laugh 2 odds 1;"
            + "player on 0 at 0 loud 1 every 4; player on 0 at 1 loud 0 every 5;"
            + "player on 1 at 4 loud 2 every 6; player on 1 at 5 loud 1 every 7;"
            + "umpire at 0 deaf 0; umpire at 2 deaf 1; wind from 4 to 5; friends 0 1; friends 1 3;";

    private PromisesTest() {
    }

    public static void main(String[] args) {
        newObject();
        tapes();
        greens();
        things();
        ears();
        match();
        scores();
        runs();
        others();
        cells();
        rests();
        covers();
        friends();
        heard();
        heardRefusals();
        chances();
        acts();
        actLimit();
        draws();
        bell();
        counts();
        images();
        rows();
        pastes();
        alone();
        Check.finish("PromisesTest");
    }

    private static void due(String what, long got, long want) {
        Check.due(what, got, want);
    }

    private static SilenceMatch base() {
        return Check.green(BASE, 10);
    }

    private static void newObject() {
        SilenceMatch x = new SilenceMatch();
        due("NONE", SilenceMatch.NONE, -1);
        for (int what = 0; what <= 13; what++) {
            due("count", x.count(what), 0);
        }
        due("fault(0)", x.fault(0), 0);
        due("fault(1)", x.fault(1), -1);
        due("wins", x.wins(), -2);
        due("anew", x.anew(), -2);
        due("undo", x.undo(), -2);
        due("wind", x.wind(1), -2);
        due("dead", x.dead(0), -2);
        due("score", x.score(0, 0), -2);
        due("coughs", x.coughs(1), -2);
        due("cover", x.cover(0, 1), -2);
        due("without", x.without(0, 0), -2);
        due("drawn", x.drawn(0, 0), -2);
        due("bell", x.bell(1), -2);
        due("gains", x.gains(0), -1000);
        due("back", x.back(0), -6);
    }

    private static void tapes() {
        SilenceMatch x = new SilenceMatch();
        due("end(1) of nothing", x.end(1), -1);
        due("end(0) of nothing", x.end(0), 0);
        for (int i = 1; i <= 45; i++) {
            due("feed", x.feed(0, 0, 0, 0, 0), 20 * i);
        }
        due("feed beyond 900", x.feed(0, 0, 0, 0, 0), -1);
        due("none came", x.count(12), 900);
        due("end(901)", x.end(901), -1);
        due("end(-1)", x.end(-1), -1);
        due("end(MIN)", x.end(MIN), -1);
        due("nothing happened", x.count(12), 900);
        due("end(881)", x.end(881), 881);
        due("feed to 901", x.feed(0, 0, 0, 0, 0), -1);
        due("end(880)", x.end(880), 880);
        due("feed to 900", x.feed(0, 0, 0, 0, 0), 900);
        due("end(0)", x.end(0), 0);
        due("count", x.count(12), 0);
        // "green wide 5 high 4 bell 60 laugh 12 odds 10;", the highest byte of each number first.
        due("feed", x.feed(0x67726565, 0x6e207769, 0x64652035, 0x20686967, 0x68203420), 20);
        due("feed", x.feed(0x62656c6c, 0x20363020, 0x6c617567, 0x68203132, 0x206f6464), 40);
        due("feed", x.feed(0x73203130, 0x3b0affff, -1, -1, -1), 60);
        due("end", x.end(45), 45);
        due("green", x.green(), 1);
        due("empty then", x.count(12), 0);
        due("wide", x.count(0), 5);
        due("odds", x.count(4), 10);
    }

    private static void greens() {
        SilenceMatch x = base();
        due("fault(0)", x.fault(0), 0);
        due("fault(1)", x.fault(1), -1);
        x.move(0, 3);
        Check.tape(x, "green wide 6 ");
        due("a FAULT", x.green(), -4);
        due("fault(0)", x.fault(0), 2);
        due("fault(1)", x.fault(1), 11);
        due("fault(2)", x.fault(2), -1);
        due("fault(-1)", x.fault(-1), -1);
        due("the GREEN stays", x.count(0), 3);
        due("acts stay", x.count(10), 1);
        due("LINES stay", x.count(11), 10);
        due("the TAPE stays", x.count(12), 13);
        due("the same FAULT again", x.green(), -4);
        due("fault(1)", x.fault(1), 11);
        due("cut at the FAULT", x.end(11), 11);
        due("the rest of it, behind what stayed", x.feed(0x35206869, 0x67682038, 0, 0, 0), 31);
        due("a FAULT behind it", x.green(), -4);
        due("fault(0)", x.fault(0), 2);
        due("fault(1)", x.fault(1), 18);
        due("end", x.end(18), 18);
        Check.tape(x, "1 bell 1 laugh 0 odds 0;");
        due("mended", x.green(), 1);
        due("wide", x.count(0), 5);
        due("empty then", x.count(12), 0);
        Check.tape(x, BASE);
        x.green();
        x.move(0, 3);
        Check.tape(x, "green wide 1 high 1 bell 1 laugh 0 odds 0;");
        due("green in place of another", x.green(), 1);
        due("nothing done", x.count(10), 0);
        due("no FAULT", x.fault(0), 0);
        due("no place", x.fault(1), -1);
        due("no PLAYERS", x.count(6), 0);
        due("no UMPIRES", x.umpire(0, 0), -2);
        due("no WIND", x.wind(4), 0);
        Check.tape(x, " \n  \n");
        due("blanks alone", x.green(), 0);
        due("no GREEN", x.wins(), -2);
        due("no FAULT", x.fault(0), 0);
        Check.tape(x, BASE);
        due("green", x.green(), 10);
        due("nothing on the TAPE", x.green(), 0);
        for (int what = 0; what <= 13; what++) {
            due("count without a GREEN", x.count(what), 0);
        }
        due("green of nothing", x.player(0, 0), -2);
        Check.tape(x, BASE);
        due("green", x.green(), 10);
        Check.tape(x, "green wide 1 high 1 bell 20 laugh 0 odds 0;player on 0 at 0 loud 0 every 11;"
                + "player on 0 at 0 loud 0 every 11;");
        due("green", x.green(), 3);
        due("other coughs", x.coughs(8), 0);
        due("other coughs", x.coughs(11), 3);
        due("no FRIENDS", x.player(1, 4), 0);
        due("no FRIENDS", x.count(9), 0);
    }

    private static void things() {
        SilenceMatch x = base();
        int[][] players = {{0, 0, 1, 4, 2}, {0, 1, 0, 5, 9}, {1, 4, 2, 6, 0}, {1, 5, 1, 7, 2}};
        for (int p = 0; p < 4; p++) {
            for (int what = 0; what < 5; what++) {
                due("player " + p + " " + what, x.player(p, what), players[p][what]);
            }
            due("player what 5", x.player(p, 5), -2);
            due("player what -1", x.player(p, -1), -2);
        }
        due("player 4", x.player(4, 0), -2);
        due("player -1", x.player(-1, 0), -2);
        due("umpire", x.umpire(0, 0), 0);
        due("umpire", x.umpire(0, 1), 0);
        due("umpire", x.umpire(1, 0), 2);
        due("umpire", x.umpire(1, 1), 1);
        due("umpire 2", x.umpire(2, 0), -2);
        due("umpire -1", x.umpire(-1, 0), -2);
        due("umpire what", x.umpire(0, 2), -2);
        due("far", x.far(0, 5), 3);
        due("far", x.far(2, 3), 3);
        due("far", x.far(4, 4), 0);
        due("far", x.far(6, 0), -2);
        due("far", x.far(0, -1), -2);
        due("wind 3", x.wind(3), 0);
        due("wind 4", x.wind(4), 1);
        due("wind 5", x.wind(5), 1);
        due("wind 6", x.wind(6), 0);
        due("wind beyond the bell", x.wind(60), 0);
        due("wind 61", x.wind(61), -2);
        due("wind 0", x.wind(0), -2);
        due("crowd", x.crowd(5), 8);
        due("crowd", x.crowd(2), 0);
        due("crowd", x.crowd(6), -2);
        due("crowd", x.crowd(-1), -2);
        due("near", x.near(0), 0);
        due("near", x.near(3), 1);
        due("near, two alike", x.near(1), 0);
        due("near", x.near(4), -2);
        due("near", x.near(-1), -2);
        due("coughs", x.coughs(12), 5);
        due("coughs", x.coughs(20), 3);
        due("coughs", x.coughs(1), 0);
        due("coughs", x.coughs(21), -2);
        due("coughs", x.coughs(0), -2);
    }

    private static void ears() {
        SilenceMatch x = base();
        due("ears", x.ears(0, 0), 0);
        due("ears", x.ears(0, 1), 1);
        due("ears", x.ears(2, 1), 2);
        due("ears", x.ears(2, 2), 3);
        due("ears", x.ears(5, 2), 2);
        due("ears", x.ears(5, 12), 3);
        due("ears", x.ears(5, 13), -2);
        due("ears", x.ears(5, -1), -2);
        due("ears", x.ears(6, 1), -2);
        due("ears", x.ears(-1, 1), -2);
        due("dead", x.dead(0), 63);
        due("dead", x.dead(1), 48);
        due("dead", x.dead(2), 0);
        due("dead", x.dead(13), -2);
        due("dead", x.dead(-1), -2);
        due("quiet beside an UMPIRE", x.quiet(0), 0);
        due("quiet", x.quiet(4), 1);
        due("quiet", x.quiet(5), 1);
        due("quiet", x.quiet(6), -2);
        due("quiet", x.quiet(-1), -2);
    }

    private static void match() {
        SilenceMatch x = base();
        int[] out = {8, 9, 6, 10};
        int[] finger = {0, 0, 0, 1};
        for (int p = 0; p < 4; p++) {
            due("out " + p, x.out(p), out[p]);
            due("finger " + p, x.finger(p), finger[p]);
        }
        due("out", x.out(4), -2);
        due("out", x.out(-1), -2);
        due("finger", x.finger(4), -2);
        due("finger", x.finger(-1), -2);
        due("fingers", x.fingers(0), 3);
        due("fingers", x.fingers(1), 1);
        due("fingers", x.fingers(2), -2);
        due("fingers", x.fingers(-1), -2);
        int[] outs = {0, 0, 0, 0, 0, 0, 4, 0, 1, 2, 8, 0};
        int[] laughs = {0, 0, 0, 0, 0, 0, 0, 0, 0, 2, 8, 0};
        for (int m = 1; m < outs.length; m++) {
            due("outs " + m, x.outs(m), outs[m]);
            due("laughs " + m, x.laughs(m), laughs[m]);
        }
        due("outs", x.outs(0), -2);
        due("outs", x.outs(21), -2);
        due("laughs", x.laughs(0), -2);
        due("laughs", x.laughs(21), -2);
        due("tries", x.tries(8), 1);
        due("tries", x.tries(6), 4);
        due("tries", x.tries(7), 8);
        due("tries", x.tries(12), 0);
        due("tries", x.tries(21), -2);
        due("tries", x.tries(0), -2);
    }

    private static void scores() {
        SilenceMatch x = base();
        due("score", x.score(0, 0), 2);
        due("score", x.score(0, 7), 2);
        due("score", x.score(0, 8), 1);
        due("score", x.score(0, 9), 0);
        due("score", x.score(1, 5), 2);
        due("score", x.score(1, 6), 1);
        due("score", x.score(1, 20), 0);
        due("score", x.score(1, 21), -2);
        due("score", x.score(1, -1), -2);
        due("score", x.score(2, 0), -2);
        due("score", x.score(-1, 0), -2);
        due("wins", x.wins(), -1);
        due("leads", x.leads(), -1);
        due("gone", x.gone(0), 9);
        due("gone", x.gone(1), 10);
        due("gone", x.gone(2), -2);
        due("gone", x.gone(-1), -2);
        due("bells", x.bells(0), 6);
        due("bells", x.bells(1), 9);
        due("bells", x.bells(2), -2);
        due("bells", x.bells(-1), -2);
        due("a safe CELL", x.move(0, 4), 0);
        due("wins", x.wins(), 0);
        due("leads", x.leads(), 6);
        due("gone", x.gone(0), -1);
        due("bells", x.bells(1), -1);
        // SIDE 1 alone plays, and nobody hears: it leads from minute 0 on.
        SilenceMatch y = Check.green("green wide 1 high 1 bell 9 laugh 1 odds 1;player on 1 at 0 loud 9 every 4;", 2);
        due("wins", y.wins(), 1);
        due("leads", y.leads(), 0);
        due("gone", y.gone(0), 0);
        due("gone", y.gone(1), -1);
        due("bells", y.bells(1), 1);
        // A win that would come behind the bell only.
        SilenceMatch z = Check.green("green wide 1 high 1 bell 4 laugh 1 odds 1;player on 1 at 0 loud 9 every 30;"
                + "player on 0 at 0 loud 0 every 4;umpire at 0 deaf 0;", 4);
        due("bells behind the bell", z.bells(0), 30);
        due("wins", z.wins(), -1);
        SilenceMatch w = Check.green("green wide 1 high 1 bell 4 laugh 1 odds 1;player on 1 at 0 loud 9 every 30;"
                + "player on 0 at 0 loud 0 every 4;umpire at 0 deaf 0;wind from 30 to 59;", 5);
        due("bells in the last minute", w.bells(0), 60);
    }

    private static void runs() {
        SilenceMatch x = base();
        due("last", x.last(), 10);
        due("calm", x.calm(), 10);
        due("chain", x.chain(), 2);
        x.move(0, 4);
        due("last", x.last(), 6);
        due("calm", x.calm(), 14);
        due("chain", x.chain(), 0);
        x.lozenge(2, 1);
        due("last", x.last(), -1);
        due("calm", x.calm(), 20);
        // LAUGHTER in a WIND is no sound, but laughter: 1 laughs in minute 5 and is not OUT.
        SilenceMatch y = Check.green("green wide 1 high 1 bell 9 laugh 9 odds 1;player on 1 at 0 loud 9 every 4;"
                + "player on 0 at 0 loud 0 every 4;umpire at 0 deaf 0;wind from 5 to 5;friends 1 0;", 6);
        due("laughs", y.laughs(5), 2);
        due("out", y.out(1), -1);
        due("laughs", y.laughs(6), 0);
        due("chain", y.chain(), 1);
    }

    private static void others() {
        SilenceMatch x = base();
        due("fire", x.fire(), 0);
        due("grudge", x.grudge(), 0);
        due("swap", x.swap(0), -1);
        due("swap", x.swap(1), -1);
        due("swap", x.swap(2), -2);
        due("swap", x.swap(-1), -2);
        // Two UMPIRES alike: without either of them as many are OUT. Then one who matters, behind one who doesn't.
        SilenceMatch y = Check.green("green wide 2 high 1 bell 9 laugh 0 odds 1;player on 0 at 0 loud 1 every 4;"
                + "umpire at 0 deaf 0;umpire at 1 deaf 0;", 4);
        due("fire", y.fire(), -1);
        due("grudge", y.grudge(), -1);
        SilenceMatch z = Check.green("green wide 3 high 1 bell 9 laugh 0 odds 1;player on 0 at 0 loud 1 every 4;"
                + "player on 0 at 2 loud 3 every 5;player on 0 at 2 loud 0 every 4;umpire at 2 deaf 9;umpire at 1 deaf 0;", 6);
        due("fire", z.fire(), 1);
        due("swap, none better", z.swap(0), -1);
        // PLAYERS 1 and 3 are heard in CELL 0, where 0 and 2 would not be: the pairs 01, 03, 12, 23 all gain 1.
        SilenceMatch w = Check.green("green wide 4 high 1 bell 9 laugh 0 odds 1;player on 0 at 3 loud 0 every 4;"
                + "player on 0 at 0 loud 1 every 4;player on 0 at 3 loud 0 every 4;player on 0 at 0 loud 1 every 4;"
                + "umpire at 0 deaf 1;", 6);
        due("swap, the first of several", w.swap(0), 1);
        due("swap of the other SIDE", w.swap(1), -1);
    }

    private static void cells() {
        SilenceMatch x = base();
        due("safe", x.safe(0), 48);
        due("place", x.place(0), 4);
        due("lasts", x.lasts(0), -1);
        due("best", x.best(0), 4);
        due("gains", x.gains(0), 1);
        due("safe", x.safe(2), 0);
        due("place", x.place(2), 0);
        due("lasts", x.lasts(2), 6);
        due("best", x.best(2), 0);
        due("gains", x.gains(2), 0);
        due("hush", x.hush(0), 0);
        due("hush", x.hush(1), -1);
        due("hush", x.hush(2), 1);
        due("hush", x.hush(3), -1);
        due("nothing moved", x.player(0, 1), 0);
        due("nothing said", x.player(2, 2), 2);
        for (int p = -1; p <= 4; p += 5) {
            due("safe", x.safe(p), -2);
            due("place", x.place(p), -2);
            due("lasts", x.lasts(p), -2);
            due("best", x.best(p), -2);
            due("gains", x.gains(p), -1000);
            due("hush", x.hush(p), -2);
        }
        // 1 is OUT earlier in CELL 0 (coughing, in 4) than in CELL 2 (laughing at 0, in 9).
        SilenceMatch y = Check.green("green wide 3 high 1 bell 20 laugh 5 odds 1;player on 0 at 0 loud 1 every 8;"
                + "player on 1 at 0 loud 1 every 4;umpire at 0 deaf 0;friends 0 1;", 5);
        due("out", y.out(1), 4);
        due("place", y.place(1), 2);
        due("lasts", y.lasts(1), 9);
        due("gains", y.gains(1), 0);
        // SIDE 1 alone loses a PLAYER whatever he does: less than the other one.
        SilenceMatch z = Check.green("green wide 2 high 1 bell 20 laugh 5 odds 1;player on 0 at 0 loud 0 every 8;"
                + "player on 1 at 0 loud 9 every 4;umpire at 0 deaf 0;", 4);
        due("gains below 0", z.gains(1), -1);
    }

    private static void rests() {
        SilenceMatch x = base();
        due("even", x.even(), 0);
        due("evens", x.evens(), 0);
        due("without", x.without(0, 0), 0);
        due("without", x.without(1, 0), 1);
        due("without", x.without(2, 1), 1);
        due("without", x.without(15, 1), 0);
        due("without", x.without(16, 0), -2);
        due("without", x.without(-1, 0), -2);
        due("without", x.without(0, 2), -2);
        due("without", x.without(0, -1), -2);
        due("drop", x.drop(0), 0);
        due("drop", x.drop(1), -1);
        due("drop", x.drop(2), -2);
        due("drop", x.drop(-1), -2);
        x.move(0, 4);
        due("even", x.even(), 1);
        due("evens", x.evens(), 1);
    }

    private static void covers() {
        SilenceMatch x = base();
        due("cover", x.cover(0, 1), 2);
        due("covers", x.covers(0, 1, 0), 0);
        due("covers", x.covers(0, 1, 1), 5);
        due("covers", x.covers(0, 1, 2), -1);
        due("covers", x.covers(0, 1, -1), -1);
        due("cover", x.cover(2, 1), -1);
        due("covers", x.covers(2, 1, 0), -1);
        due("cover", x.cover(0, 12), 1);
        due("covers", x.covers(0, 12, 0), 0);
        due("cover by more than four", x.cover(1, 1), 6);
        due("covers", x.covers(1, 1, 3), 3);
        due("cover", x.cover(0, 2), 1);
        due("covers", x.covers(0, 2, 0), 1);
        due("more", x.more(0, 1), 4);
        due("more", x.more(1, 1), 4);
        due("more", x.more(2, 1), -1);
        due("more", x.more(0, 12), -1);
        int[][] wrong = {{-1, 1}, {10, 1}, {0, 0}, {0, 13}, {MIN, MAX}};
        for (int[] pair : wrong) {
            due("cover", x.cover(pair[0], pair[1]), -2);
            due("covers", x.covers(pair[0], pair[1], 0), -2);
            due("more", x.more(pair[0], pair[1]), -2);
        }
        SilenceMatch y = Check.green("green wide 5 high 4 bell 9 laugh 0 odds 1;", 1);
        due("cover of the largest", y.cover(0, 1), 6);
        due("covers", y.covers(0, 1, 0), 0);
        due("cover of one CELL each", y.cover(9, 9), 20);
        due("covers", y.covers(9, 9, 19), 19);
        due("covers", y.covers(9, 9, 20), -1);
        due("more where none is", y.more(0, 1), 6);
    }

    private static void friends() {
        SilenceMatch x = base();
        due("groups", x.groups(), 2);
        due("spread", x.spread(1), 11);
        due("spread", x.spread(2), 4);
        due("spread", x.spread(4), -2);
        due("spread", x.spread(-1), -2);
        due("part", x.part(0, 3), 1);
        due("parts", x.parts(0, 3), 1);
        due("parts", x.parts(1, 3), 2);
        due("part", x.part(0, 2), 0);
        due("parts", x.parts(0, 2), 0);
        due("part of one twice", x.part(2, 2), -1);
        due("parts of one twice", x.parts(2, 2), -1);
        due("part", x.part(0, 4), -2);
        due("part", x.part(-1, 0), -2);
        due("parts", x.parts(4, 4), -2);
        due("parts", x.parts(0, -1), -2);
        // Pairs told twice must both be parted.
        SilenceMatch y = Check.green("green wide 1 high 1 bell 9 laugh 0 odds 1;player on 0 at 0 loud 1 every 4;"
                + "player on 0 at 0 loud 1 every 4;player on 0 at 0 loud 1 every 4;friends 0 1;friends 1 0;"
                + "friends 1 2;friends 2 1;friends 0 2;", 9);
        due("part", y.part(0, 1), 3);
        due("parts", y.parts(0, 1), 19);
        due("part", y.part(2, 0), 3);
        due("parts", y.parts(2, 0), 19);
        due("groups", y.groups(), 1);
        due("groups of nobody", Check.green("green wide 1 high 1 bell 9 laugh 0 odds 1;", 1).groups(), 0);
    }

    private static void heard() {
        SilenceMatch x = base();
        x.row(0, 0, 2);
        x.write(0, 1, 1);
        due("fits", x.fits(0), 68);
        due("spots", x.spots(0), 63);
        due("who", x.who(0), 5);
        x.row(1, 3, 4);
        x.write(1, 2, 1);
        x.write(1, 3, 1);
        due("fits", x.fits(1), 2);
        due("spots", x.spots(1), 36);
        due("who", x.who(1), 0);
        due("ask", x.ask(1), 3);
        due("leaves", x.leaves(1), 1);
        x.lozenge(3, 2);
        due("who, louder", x.who(1), 8);
        x.row(2, 1, 0);
        due("fits nothing told", x.fits(2), 72);
        due("spots nothing told", x.spots(2), 63);
        due("who but the one without a sound", x.who(2), 13);
        // One and the same UMPIRE heard it and did not.
        x.write(1, 2, 0);
        due("fits", x.fits(1), 0);
        due("spots", x.spots(1), 0);
        due("ask", x.ask(1), -1);
        due("leaves", x.leaves(1), 0);
    }

    private static void heardRefusals() {
        SilenceMatch x = new SilenceMatch();
        heardAll(x, 0, -2);
        x.row(0, 0, 2);
        heardAll(x, 0, -2);
        Check.tape(x, BASE);
        x.green();
        due("fits", x.fits(0), 4);
        heardAll(x, 1, -6);
        heardAll(x, -1, -2);
        heardAll(x, 4, -2);
        x.row(1, 0, 3);
        heardAll(x, 1, -2);
        x.row(1, 3, 2);
        x.write(1, 0, 2);
        heardAll(x, 1, -2);
        x.write(1, 0, -1);
        heardAll(x, 1, -2);
        x.write(1, 0, 1L << 32);
        heardAll(x, 1, -2);
        x.write(1, 0, 1);
        x.write(1, 1, 2);
        heardAll(x, 1, -2);
        x.write(1, 1, -1);
        heardAll(x, 1, -2);
        x.write(1, 1, 1);
        due("fits", x.fits(1), 63);
    }

    private static void heardAll(SilenceMatch x, int slot, int want) {
        due("fits", x.fits(slot), want);
        due("spots", x.spots(slot), want);
        due("who", x.who(slot), want);
        due("ask", x.ask(slot), want);
        due("leaves", x.leaves(slot), want);
    }

    private static void chances() {
        SilenceMatch x = base();
        due("chance", x.chance(0, 0), 6561);
        due("chance", x.chance(0, 1), 10000);
        due("chance", x.chance(1, 0), 1);
        due("chance", x.chance(1, 1), 1);
        due("chance", x.chance(2, 0), 729);
        due("chance", x.chance(2, 1), 1000);
        due("chance", x.chance(0, 2), -2);
        due("chance", x.chance(0, -1), -2);
        due("chance", x.chance(4, 0), -2);
        due("surest", x.surest(0), 1);
        due("surest", x.surest(1), 3);
        due("surest", x.surest(2), -2);
        due("surest", x.surest(-1), -2);
        due("sure", x.sure(0, 81), 15);
        due("sure", x.sure(0, 82), 11);
        due("sure", x.sure(0, 100), 7);
        due("sure", x.sure(0, 0), 20);
        due("sure", x.sure(1, 100), 20);
        due("sure", x.sure(0, 101), -2);
        due("sure", x.sure(0, -1), -2);
        due("sure", x.sure(4, 0), -2);
        String rest = "player on 0 at 0 loud 9 every 4;player on 0 at 0 loud 9 every 30;umpire at 0 deaf 0;";
        SilenceMatch always = Check.green("green wide 1 high 1 bell 60 laugh 0 odds 10;" + rest, 4);
        due("chance", always.chance(0, 0), 0);
        due("chance", always.chance(0, 1), 1);
        due("surest, both 0", always.surest(0), 0);
        due("surest, nobody", always.surest(1), -1);
        due("sure", always.sure(0, 1), 3);
        due("sure", always.sure(0, 0), 60);
        SilenceMatch never = Check.green("green wide 1 high 1 bell 60 laugh 0 odds 0;" + rest, 4);
        due("chance", never.chance(0, 0), 1);
        due("chance", never.chance(0, 1), 1);
        due("surest, both 1", never.surest(0), 0);
        due("sure", never.sure(0, 100), 60);
        SilenceMatch long15 = Check.green("green wide 1 high 1 bell 60 laugh 0 odds 7;" + rest, 4);
        due("chance", long15.chance(0, 0), 14348907);
        due("chance", long15.chance(0, 1), 1000000000000000L);
        due("surest", long15.surest(0), 1);
        SilenceMatch half = Check.green("green wide 1 high 1 bell 60 laugh 0 odds 5;" + rest, 4);
        due("chance", half.chance(0, 0), 1);
        due("chance", half.chance(0, 1), 32768);
        due("sure", half.sure(0, 50), 7);
    }

    private static void acts() {
        SilenceMatch x = base();
        due("undo nothing", x.undo(), -5);
        due("anew nothing", x.anew(), 0);
        due("move", x.move(0, 4), 0);
        due("move", x.move(0, 4), 4);
        due("lozenge", x.lozenge(0, 12), 1);
        due("acts", x.count(10), 3);
        due("now", x.player(0, 1), 4);
        due("now", x.player(0, 2), 12);
        due("crowd", x.crowd(4), 5);
        due("move", x.move(4, 0), -2);
        due("move", x.move(-1, 0), -2);
        due("move", x.move(0, 6), -2);
        due("move", x.move(0, -1), -2);
        due("lozenge", x.lozenge(4, 0), -2);
        due("lozenge", x.lozenge(-1, 0), -2);
        due("lozenge", x.lozenge(0, 13), -2);
        due("lozenge", x.lozenge(0, -1), -2);
        due("acts", x.count(10), 3);
        due("undo", x.undo(), 2);
        due("loud again", x.player(0, 2), 1);
        due("undo", x.undo(), 1);
        due("still there", x.player(0, 1), 4);
        due("lozenge", x.lozenge(1, 7), 0);
        due("anew", x.anew(), 2);
        due("as told", x.player(0, 1), 0);
        due("as told", x.player(1, 2), 0);
        due("acts", x.count(10), 0);
    }

    private static void actLimit() {
        SilenceMatch x = base();
        for (int i = 0; i < 20; i++) {
            due("move", x.move(0, (i + 1) % 6), i % 6);
            due("lozenge", x.lozenge(1, (i + 1) % 13), i % 13);
        }
        due("move", x.move(0, 0), -5);
        due("lozenge", x.lozenge(0, 0), -5);
        due("move, asked ahead", x.move(0, 6), -2);
        due("lozenge, asked ahead", x.lozenge(9, 0), -2);
        due("undo", x.undo(), 39);
        due("move", x.move(0, 0), 2);
        due("anew", x.anew(), 40);
        due("as told", x.player(0, 1), 0);
        due("as told", x.player(1, 2), 0);
    }

    private static void draws() {
        SilenceMatch x = base();
        int[][] drawn = {{0, 0, -1, 14}, {1, 11, 1, 10}, {2, 0, -1, 14}, {7, 4, 0, 13}, {2000000000, 4, 0, 14}};
        for (int[] d : drawn) {
            for (int what = 0; what < 3; what++) {
                due("drawn " + d[0] + " " + what, x.drawn(d[0], what), d[1 + what]);
            }
        }
        due("drawn", x.drawn(-1, 0), -2);
        due("drawn", x.drawn(2000000001, 0), -2);
        due("drawn", x.drawn(0, 3), -2);
        due("drawn", x.drawn(0, -1), -2);
        due("luck", x.luck(0, 3, 0), 2);
        due("luck", x.luck(1, 1, 0), 0);
        due("luck", x.luck(0, 0, 0), -2);
        due("luck", x.luck(0, 21, 0), -2);
        due("luck", x.luck(-1, 1, 0), -2);
        due("luck", x.luck(2000000001, 1, 0), -2);
        due("luck", x.luck(0, 1, 4), -2);
        due("luck", x.luck(0, 1, -1), -2);
        due("luck at the end of the seeds", x.luck(2000000000, 20, 1) >= 0 ? 1 : 0, 1);
    }

    private static void bell() {
        SilenceMatch x = base();
        due("bell", x.bell(0), -2);
        due("bell", x.bell(61), -2);
        due("bell", x.bell(1), 20);
        due("calm", x.calm(), 1);
        due("bell", x.bell(8), 1);
        due("count", x.count(2), 8);
        due("out", x.out(0), 8);
        due("out behind the bell", x.out(1), -1);
        due("outs behind the bell", x.outs(9), -2);
        due("laughs behind the bell", x.laughs(9), -2);
        due("wins", x.wins(), -1);
        due("score", x.score(0, 8), 1);
        due("chance", x.chance(0, 1), 10);
        due("bell", x.bell(7), 8);
        due("wins", x.wins(), 0);
        due("leads", x.leads(), 6);
        due("move", x.move(3, 3), 5);
        due("bell with an act", x.bell(20), -5);
        due("bell, asked ahead", x.bell(61), -2);
        due("undo", x.undo(), 0);
        due("bell", x.bell(60), 7);
        due("last", x.last(), 10);
    }

    private static void counts() {
        SilenceMatch x = base();
        x.row(2, 0, 0);
        x.row(3, 0, 5);
        x.move(1, 1);
        x.feed(1, 2, 3, 4, 5);
        int[] counts = {3, 2, 20, 2, 1, 6, 4, 2, 1, 2, 1, 10, 20, 2};
        for (int what = 0; what < counts.length; what++) {
            due("count " + what, x.count(what), counts[what]);
        }
        due("count 14", x.count(14), -1);
        due("count -1", x.count(-1), -1);
    }

    private static void images() {
        SilenceMatch x = new SilenceMatch();
        due("image of no GREEN", x.image(2), 0);
        Check.tape(x, BASE);
        x.green();
        x.bell(9);
        x.move(0, 4);
        due("image", x.image(0), 0);
        x.row(0, 0, 1);
        x.lozenge(0, 9);
        x.move(1, 5);
        due("acts", x.count(10), 3);
        due("back", x.back(0), 0);
        due("acts", x.count(10), 1);
        due("CELL", x.player(0, 1), 4);
        due("loud", x.player(0, 2), 1);
        due("CELL", x.player(1, 1), 1);
        due("bell", x.count(2), 9);
        due("SLOTS are not in it", x.count(13), 1);
        due("undo", x.undo(), 0);
        due("as told", x.player(0, 1), 0);
        Check.tape(x, "green wide 1 high 1 bell 60 laugh 0 odds 0;wind from 60 to 60;");
        due("green", x.green(), 2);
        due("wind", x.wind(4), 0);
        due("back", x.back(0), 0);
        due("WINDS", x.wind(4), 1);
        due("WINDS", x.wind(60), 0);
        due("coughs", x.coughs(8), 1);
        due("LINES", x.count(11), 10);
        due("back to none", x.back(2), 0);
        due("no GREEN", x.wins(), -2);
        due("no acts", x.count(10), 0);
        due("back", x.back(1), -6);
        due("back", x.back(3), -2);
        due("back", x.back(-1), -2);
        due("image", x.image(3), -2);
        due("image", x.image(-1), -2);
        due("again", x.back(0), 0);
        due("out", x.out(2), 6);
        // An IMAGE's acts are its own, whatever is done behind it.
        x.anew();
        x.lozenge(2, 12);
        x.back(0);
        due("undo", x.undo(), 0);
        due("CELL as told", x.player(0, 1), 0);
        due("loud as told", x.player(2, 2), 2);
        x.lozenge(3, 4);
        x.image(1);
        x.undo();
        x.move(0, 5);
        x.back(1);
        due("undo", x.undo(), 0);
        due("loud as told", x.player(3, 2), 1);
        due("CELL as told", x.player(0, 1), 0);
    }

    private static void rows() {
        SilenceMatch x = base();
        due("write to nothing", x.write(0, 0, 1), -6);
        due("row", x.row(0, 0, -1), -3);
        due("the SLOT stays", x.count(13), 0);
        due("row", x.row(4, 0, 1), -2);
        due("row", x.row(-1, 0, -1), -2);
        due("row", x.row(0, 4, 1), -2);
        due("row", x.row(0, -1, -1), -2);
        due("row", x.row(0, 0, 61), -2);
        due("row", x.row(0, 0, 60), 0);
        due("write", x.write(0, 59, 1), 0);
        due("write", x.write(0, 60, 1), -7);
        due("write", x.write(0, -1, 1), -7);
        due("write", x.write(4, 0, 1), -2);
        due("write", x.write(-1, 0, 1), -2);
        due("row", x.row(0, 0, MIN), -3);
        due("fits, the row stayed", x.fits(0), 0);
        due("row", x.row(0, 0, 2), 0);
        due("all are 0 anew", x.fits(0), 4);
        x.write(0, 0, 1);
        x.write(0, 1, 1);
        due("written", x.fits(0), 63);
        due("row", x.row(0, 1, 2), 0);
        due("all are 0 anew", x.fits(0), 4);
        for (int width = 0; width < 3; width++) {
            x.row(1, width, 2);
            x.write(1, 0, 1L << (8 << width));
            x.write(1, 1, 1 - (1L << (8 << width)));
            due("cut", x.fits(1), 68);
            x.write(1, 0, 1L << ((8 << width) - 1));
            due("not cut", x.fits(1), -2);
        }
        x.row(1, 3, 2);
        x.write(1, 0, Long.MIN_VALUE);
        due("not cut", x.fits(1), -2);
    }

    private static void pastes() {
        SilenceMatch x = base();
        due("paste", x.paste(0, 0, 1, 0, 0), -6);
        x.row(0, 0, 4);
        due("paste", x.paste(0, 0, 1, 0, 0), -6);
        due("paste", x.paste(1, 0, 0, 0, 0), -6);
        due("paste", x.paste(0, 0, 4, 0, 0), -2);
        due("paste", x.paste(-1, 0, 1, 0, 0), -2);
        x.row(1, 1, 4);
        due("paste", x.paste(0, -1, 1, 0, 0), -8);
        x.row(1, 0, 2);
        x.write(0, 2, 1);
        x.write(0, 3, 1);
        due("paste", x.paste(0, 3, 1, 0, 2), -7);
        due("paste", x.paste(0, 0, 1, 1, 2), -7);
        due("paste", x.paste(0, -1, 1, 0, 1), -7);
        due("paste", x.paste(0, 0, 1, -1, 1), -7);
        due("paste", x.paste(0, 0, 1, 0, -1), -7);
        due("paste", x.paste(0, MAX, 1, MAX, MAX), -7);
        due("nothing happened", x.fits(1), 4);
        due("paste of none", x.paste(0, 4, 1, 2, 0), 0);
        due("paste", x.paste(0, 2, 1, 0, 2), 0);
        due("fits", x.fits(1), 63);
        // 0 0 1 1 becomes 0 0 0 1 on itself, as they were: not 0 0 0 0.
        due("paste on itself", x.paste(0, 0, 0, 1, 3), 0);
        x.paste(0, 2, 1, 0, 2);
        due("fits", x.fits(1), 68);
        x.row(0, 0, 4);
        x.write(0, 1, 1);
        x.write(0, 2, 1);
        due("paste back on itself", x.paste(0, 1, 0, 0, 3), 0);
        x.paste(0, 0, 1, 0, 2);
        due("fits", x.fits(1), 63);
    }

    /** A GREEN of nothing but CELLS. */
    private static void alone() {
        SilenceMatch x = Check.green("green wide 2 high 2 bell 5 laugh 0 odds 0;", 1);
        due("wins", x.wins(), -1);
        due("leads", x.leads(), -1);
        due("last", x.last(), -1);
        due("calm", x.calm(), 5);
        due("chain", x.chain(), 0);
        due("gone", x.gone(0), 0);
        due("bells", x.bells(0), -1);
        due("fire", x.fire(), -1);
        due("grudge", x.grudge(), -1);
        due("even", x.even(), 0);
        due("without", x.without(0, 0), 0);
        due("without", x.without(1, 0), -2);
        due("quiet", x.quiet(3), 12);
        due("dead", x.dead(12), 15);
        due("surest", x.surest(0), -1);
        due("drop", x.drop(1), -1);
        due("drawn", x.drawn(0, 2), 0);
        x.row(0, 0, 2);
        due("fits, no UMPIRE 0", x.fits(0), -2);
        x.row(0, 0, 0);
        due("fits", x.fits(0), 48);
        SilenceMatch y = Check.green("green wide 2 high 2 bell 5 laugh 0 odds 0;player on 0 at 0 loud 9 every 4;", 2);
        due("near", y.near(0), -1);
        due("hush", y.hush(0), 12);
        due("safe", y.safe(0), 15);
        due("finger", y.finger(0), -1);
    }
}
