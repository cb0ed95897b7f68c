/** Edges of promises 58 to 61, 64, 66 and 67: acts, the bell and IMAGES; one method for a sentence. */
final class EdgeActTest {
    private static final String EAR = Texts.umpire(0, 0);
    private static final String LOUD4 = Texts.player(0, 0, 1, 4);

    private EdgeActTest() {
    }

    public static void main(String[] args) {
        p58players();
        p58cells();
        p58fromTheFirstMinute();
        p58whereHeWas();
        p58noneSuch();
        p58fortyActs();
        p59players();
        p59loudness();
        p59whatItWas();
        p59fortyActs();
        p60howMany();
        p60none();
        p60noGreen();
        p60latest();
        p61howMany();
        p61full();
        p61noGreen();
        p64minutes();
        p64whenItWas();
        p64notTakenBack();
        p64noGreen();
        p66images();
        p66keepsGreenAndActs();
        p66noGreen();
        p66allThree();
        p66again();
        p67images();
        p67nothing();
        p67asItHasIt();
        p67whatIsNoPart();
        p67fullActs();
        Check.finish("EdgeActTest");
    }

    private static void due(String what, long got, long want) {
        Check.due(what, got, want);
    }

    /** Forty acts of PLAYER 0 on a GREEN of two CELLS or more: he goes to and fro. */
    private static void fortyActs(SilenceMatch x) {
        for (int act = 0; act < 40; act++) {
            due("act " + (act + 1), x.move(0, (act + 1) % 2), act % 2);
        }
    }

    /** 58: "A PLAYER goes" */
    private static void p58players() {
        SilenceMatch x = Texts.made(Texts.FULL);
        Edge.of("PLAYER", n -> x.move(n, 10), 0, 0, 7, 19, -2);
        due("two acts", x.count(10), 2);
        due("both are there", x.crowd(10), 129);
    }

    /** 58: "to a CELL" */
    private static void p58cells() {
        SilenceMatch x = Texts.made(Texts.FULL);
        Edge.of("CELL", n -> x.move(2, n), 0, 2, 19, 0, -2);
        due("two acts", x.count(10), 2);
        due("the last that stood", x.player(2, 1), 19);
        SilenceMatch y = Texts.made(Texts.TINY + LOUD4);
        Edge.of("one CELL", n -> y.move(0, n), 0, 0, 0, 0, -2);
        due("an act though he stays", y.count(10), 2);
    }

    /** 58: "from the first minute on" */
    private static void p58fromTheFirstMinute() {
        SilenceMatch x = Texts.made(Texts.head(2, 1, 4, 0, 1) + EAR + LOUD4);
        due("OUT", x.out(0), 4);
        x.move(0, 1);
        due("still heard", x.out(0), 4);
        SilenceMatch y = Texts.made(Texts.head(3, 1, 4, 0, 1) + EAR + LOUD4);
        y.move(0, 2);
        due("never", y.out(0), -1);
        y.undo();
        due("OUT", y.out(0), 4);
    }

    /** 58: "where he was" */
    private static void p58whereHeWas() {
        SilenceMatch x = Texts.made(Texts.FULL);
        due("as told", x.move(7, 0), 19);
        due("as moved", x.move(7, 19), 0);
        due("where he is", x.move(7, 19), 19);
        due("three acts", x.count(10), 3);
    }

    /** 58: "-2: there are none such" */
    private static void p58noneSuch() {
        SilenceMatch x = new SilenceMatch();
        Edge.of("no GREEN", n -> x.move(n, 0), 0, -2, 7, -2, -2);
        due("no acts", x.count(10), 0);
        SilenceMatch y = Texts.made(Texts.TINY);
        Edge.of("nobody", n -> y.move(n, 0), 0, -2, 7, -2, -2);
        due("neither such", Texts.made(Texts.FULL).move(8, 20), -2);
    }

    /** 58: "-5: there were 40 acts" */
    private static void p58fortyActs() {
        SilenceMatch x = Texts.made(Texts.BASE);
        fortyActs(x);
        due("full", x.count(10), 40);
        due("the 41st", x.move(0, 5), -5);
        due("of another PLAYER", x.move(3, 0), -5);
        due("the other kind", x.lozenge(0, 5), -5);
        due("still 40", x.count(10), 40);
        due("where he is", x.player(0, 1), 0);
        due("-2 ahead of -5", x.move(0, 6), -2);
        due("-2 ahead of -5", x.move(4, 0), -2);
        due("one back", x.undo(), 39);
        due("one more", x.move(0, 5), 1);
        due("full again", x.move(0, 0), -5);
        due("he stays", x.player(0, 1), 5);
    }

    /** 59: "of a PLAYER", "-2 .. likewise" */
    private static void p59players() {
        SilenceMatch x = Texts.made(Texts.FULL);
        Edge.of("PLAYER", n -> x.lozenge(n, 5), 0, 12, 7, 12, -2);
        due("two acts", x.count(10), 2);
        SilenceMatch y = new SilenceMatch();
        Edge.of("no GREEN", n -> y.lozenge(n, 5), 0, -2, 7, -2, -2);
        SilenceMatch z = Texts.made(Texts.TINY);
        Edge.of("nobody", n -> z.lozenge(n, 5), 0, -2, 7, -2, -2);
    }

    /** 59: "loud of a PLAYER is n (0 .. 12) from the first minute on" */
    private static void p59loudness() {
        SilenceMatch x = Texts.made(Texts.FULL);
        Edge.of("n", n -> x.lozenge(0, n), 0, 12, 12, 0, -2);
        due("two acts", x.count(10), 2);
        due("the last that stood", x.player(0, 2), 12);
        x.lozenge(0, 0);
        due("OUT by laughter at 7 alone", x.out(0), 31);
        x.lozenge(0, 1);
        due("OUT by the first cough", x.out(0), 4);
    }

    /** 59: "what it was" */
    private static void p59whatItWas() {
        SilenceMatch x = Texts.made(Texts.FULL);
        due("as told", x.lozenge(1, 12), 0);
        due("as changed", x.lozenge(1, 12), 12);
        due("as changed", x.lozenge(1, 0), 12);
        due("another one's stays", x.player(0, 2), 12);
        due("three acts", x.count(10), 3);
    }

    /** 59: "-5 likewise" */
    private static void p59fortyActs() {
        SilenceMatch x = Texts.made(Texts.BASE);
        for (int act = 0; act < 39; act++) {
            due("act", x.lozenge(3, 12 - act % 2), act == 0 ? 1 : 12 - (act - 1) % 2);
        }
        due("the 40th", x.lozenge(2, 7), 2);
        due("the 41st", x.lozenge(2, 8), -5);
        due("the other kind", x.move(2, 0), -5);
        due("loud stays", x.player(2, 2), 7);
        due("CELL stays", x.player(2, 1), 4);
        due("-2 ahead of -5", x.lozenge(2, 13), -2);
        due("-2 ahead of -5", x.lozenge(-1, 0), -2);
        due("still 40", x.count(10), 40);
        due("one back", x.undo(), 39);
        due("loud", x.player(2, 2), 2);
    }

    /** 60: "The latest act is taken back: how many there are." */
    private static void p60howMany() {
        SilenceMatch x = Texts.made(Texts.BASE);
        fortyActs(x);
        for (int left = 39; left >= 0; left--) {
            due("left", x.undo(), left);
            due("CELL", x.player(0, 1), left % 2);
        }
        due("none is left", x.undo(), -5);
    }

    /** 60: "-5: there is none" */
    private static void p60none() {
        SilenceMatch x = Texts.made(Texts.BASE);
        due("none yet", x.undo(), -5);
        x.move(0, 1);
        due("one", x.undo(), 0);
        due("none any more", x.undo(), -5);
        x.lozenge(0, 1);
        x.anew();
        due("all taken back", x.undo(), -5);
        x.bell(5);
        due("the bell is no act", x.undo(), -5);
        due("nor was it refused", x.count(2), 5);
        due("nobody", Texts.made(Texts.TINY).undo(), -5);
    }

    /** 60: "-2: there is no GREEN" */
    private static void p60noGreen() {
        SilenceMatch x = new SilenceMatch();
        due("no GREEN", x.undo(), -2);
        Texts.load(x, Texts.BASE);
        x.move(0, 1);
        x.green();
        due("none any more", x.undo(), -2);
    }

    /** 60: "The latest act", of both kinds, of one PLAYER and of several */
    private static void p60latest() {
        SilenceMatch x = Texts.made(Texts.BASE);
        x.move(0, 5);
        x.lozenge(0, 9);
        x.move(3, 0);
        x.move(0, 2);
        x.undo();
        due("CELL of 0", x.player(0, 1), 5);
        due("CELL of 3", x.player(3, 1), 0);
        x.undo();
        due("CELL of 3", x.player(3, 1), 5);
        due("loud of 0", x.player(0, 2), 9);
        x.undo();
        due("loud of 0", x.player(0, 2), 1);
        due("CELL of 0", x.player(0, 1), 5);
        x.undo();
        due("CELL of 0", x.player(0, 1), 0);
    }

    /** 61: "All are: how many there were." */
    private static void p61howMany() {
        SilenceMatch x = Texts.made(Texts.BASE);
        due("none", x.anew(), 0);
        x.move(0, 5);
        due("one", x.anew(), 1);
        due("none again", x.anew(), 0);
        due("as told", x.player(0, 1), 0);
        x.lozenge(0, 12);
        x.lozenge(0, 11);
        x.move(0, 4);
        due("three", x.anew(), 3);
        due("as told", x.player(0, 2), 1);
        due("as told", x.player(0, 1), 0);
        due("none are left", x.count(10), 0);
    }

    /** 61: of all forty */
    private static void p61full() {
        SilenceMatch x = Texts.made(Texts.BASE);
        fortyActs(x);
        due("refused", x.move(1, 5), -5);
        due("forty", x.anew(), 40);
        due("as told", x.player(0, 1), 0);
        due("room again", x.move(1, 5), 1);
    }

    /** 61: "-2 likewise" */
    private static void p61noGreen() {
        due("no GREEN", new SilenceMatch().anew(), -2);
        due("nobody", Texts.made(Texts.TINY).anew(), 0);
    }

    /** 64: "The bell is in minute n (1 .. 60) from now on" */
    private static void p64minutes() {
        SilenceMatch x = Texts.made(Texts.BASE);
        Edge.of("n", n -> x.bell(n), 1, 20, 60, 1, -2);
        due("the last that stood", x.count(2), 60);
        due("a minute of it", x.outs(60), 0);
        x.bell(1);
        due("none such", x.outs(2), -2);
        due("nobody is OUT", x.last(), -1);
        x.bell(10);
        due("the bell's minute", x.out(3), 10);
        x.bell(9);
        due("one less", x.out(3), -1);
    }

    /** 64: "when it was" */
    private static void p64whenItWas() {
        SilenceMatch x = Texts.made(Texts.BASE);
        due("as told", x.bell(60), 20);
        due("as set", x.bell(60), 60);
        due("as set", x.bell(1), 60);
        Texts.load(x, Texts.BASE);
        due("as told again", x.bell(20), 20);
    }

    /** 64: "-5: there are acts that are not taken back" */
    private static void p64notTakenBack() {
        SilenceMatch x = Texts.made(Texts.BASE);
        x.move(0, 0);
        due("one act", x.bell(10), -5);
        due("the bell stays", x.count(2), 20);
        due("-2 ahead of -5", x.bell(0), -2);
        due("-2 ahead of -5", x.bell(61), -2);
        x.undo();
        due("taken back", x.bell(10), 20);
        x.lozenge(0, 1);
        x.lozenge(0, 1);
        x.undo();
        due("one of two", x.bell(11), -5);
        x.anew();
        due("all taken back", x.bell(11), 10);
        fortyActs(x);
        due("forty", x.bell(12), -5);
        due("the bell stays", x.count(2), 11);
    }

    /** 64: "-2: there is none such, no GREEN" */
    private static void p64noGreen() {
        SilenceMatch x = new SilenceMatch();
        Edge.of("no GREEN", n -> x.bell(n), 1, -2, 60, -2, -2);
        due("no bell", x.count(2), 0);
    }

    /** 66: "IMAGE k (0 .. 2) .. -2: no such k" */
    private static void p66images() {
        SilenceMatch x = Texts.made(Texts.BASE);
        Edge.of("k", n -> x.image(n), 0, 0, 2, 0, -2);
        due("0 is kept", x.back(0), 0);
        due("2 is kept", x.back(2), 0);
        due("1 is not", x.back(1), -6);
    }

    /** 66: "keeps the GREEN, and acts" */
    private static void p66keepsGreenAndActs() {
        SilenceMatch x = Texts.made(Texts.FULL);
        fortyActs(x);
        due("image", x.image(1), 0);
        due("nothing changes", x.count(10), 40);
        x.anew();
        Texts.load(x, Texts.TINY);
        due("back", x.back(1), 0);
        int[] counts = {5, 4, 60, 12, 10, 20, 8, 4, 3, 9, 40, 25};
        for (int what = 0; what < counts.length; what++) {
            due("count " + what, x.count(what), counts[what]);
        }
        due("WINDS", x.wind(20), 1);
        due("coughs", x.coughs(60), 255);
        due("FRIENDS", x.player(0, 4), 146);
        due("OUT", x.out(7), 5);
        due("acts", x.undo(), 39);
        due("CELL", x.player(0, 1), 1);
    }

    /** 66: of no GREEN */
    private static void p66noGreen() {
        SilenceMatch x = new SilenceMatch();
        due("image of none", x.image(0), 0);
        Texts.load(x, Texts.BASE);
        x.move(0, 5);
        due("back to none", x.back(0), 0);
        due("no GREEN", x.wins(), -2);
        for (int what = 0; what <= 11; what++) {
            due("count " + what, x.count(what), 0);
        }
        due("no acts", x.undo(), -2);
    }

    /** 66: all three IMAGES, each of its own */
    private static void p66allThree() {
        SilenceMatch x = Texts.made(Texts.TINY);
        due("image", x.image(0), 0);
        Texts.load(x, Texts.BASE);
        x.move(0, 5);
        due("image", x.image(1), 0);
        Texts.load(x, Texts.FULL);
        fortyActs(x);
        due("image", x.image(2), 0);
        x.green();
        int[] lines = {1, 10, 25};
        int[] acts = {0, 1, 40};
        for (int k : new int[] {2, 0, 1, 1, 0, 2}) {
            due("back", x.back(k), 0);
            due("LINES of " + k, x.count(11), lines[k]);
            due("acts of " + k, x.count(10), acts[k]);
        }
    }

    /** 66: kept again, in place of what it kept */
    private static void p66again() {
        SilenceMatch x = Texts.made(Texts.BASE);
        x.image(0);
        x.image(1);
        x.move(0, 5);
        x.image(0);
        x.undo();
        x.back(0);
        due("the later one", x.player(0, 1), 5);
        due("the later one", x.count(10), 1);
        x.back(1);
        due("another IMAGE", x.player(0, 1), 0);
        x.green();
        x.image(0);
        x.back(1);
        x.back(0);
        due("none in place of one", x.wins(), -2);
        x.back(1);
        due("another IMAGE", x.wins(), -1);
    }

    /** 67: "-2: no such k" */
    private static void p67images() {
        SilenceMatch x = Texts.made(Texts.BASE);
        x.image(0);
        x.image(2);
        Edge.of("k", n -> x.back(n), 0, 0, 2, 0, -2);
        SilenceMatch y = new SilenceMatch();
        Edge.of("k of nothing", n -> y.back(n), 0, -6, 2, -6, -2);
    }

    /** 67: "-6: it has nothing" */
    private static void p67nothing() {
        SilenceMatch x = Texts.made(Texts.BASE);
        x.move(0, 5);
        for (int k = 0; k < 3; k++) {
            due("nothing", x.back(k), -6);
        }
        due("all stays", x.player(0, 1), 5);
        due("all stays", x.count(10), 1);
        x.image(1);
        due("its neighbour", x.back(0), -6);
        due("its neighbour", x.back(2), -6);
        due("itself", x.back(1), 0);
    }

    /** 67: "It is as IMAGE k has it: 0." as often as one likes */
    private static void p67asItHasIt() {
        SilenceMatch x = Texts.made(Texts.BASE);
        x.bell(9);
        x.lozenge(2, 0);
        x.image(2);
        for (int again = 0; again < 3; again++) {
            x.anew();
            x.bell(20 + again);
            x.move(0, 5);
            x.move(1, 5);
            due("back", x.back(2), 0);
            due("bell", x.count(2), 9);
            due("acts", x.count(10), 1);
            due("loud", x.player(2, 2), 0);
            due("CELLS", x.crowd(5), 8);
            due("not OUT", x.out(2), -1);
            due("OUT behind the bell", x.out(3), -1);
            due("undo", x.undo(), 0);
            due("loud as told", x.player(2, 2), 2);
        }
    }

    /** 67: the TAPE, SLOTS and the latest green()'s FAULT are no part of an IMAGE */
    private static void p67whatIsNoPart() {
        SilenceMatch x = Texts.made(Texts.BASE);
        x.image(0);
        Check.tape(x, "?");
        x.green();
        x.row(1, 0, 2);
        due("back", x.back(0), 0);
        due("TAPE", x.count(12), 1);
        due("SLOTS", x.count(13), 1);
        due("FAULT", x.fault(0), 1);
        due("place", x.fault(1), 0);
        due("row", x.fits(1) >= 0 ? 1 : 0, 1);
    }

    /** 67: acts are full again if they were */
    private static void p67fullActs() {
        SilenceMatch x = Texts.made(Texts.BASE);
        fortyActs(x);
        x.image(0);
        x.anew();
        due("room", x.move(0, 1), 0);
        x.back(0);
        due("full", x.move(0, 1), -5);
        due("full", x.bell(20), -5);
        due("all of them", x.anew(), 40);
        due("as told", x.player(0, 1), 0);
    }
}
