/** Edges of Terms II and of promises 6 to 13, 24, 25 and 65: what is on the GREEN; one method for a sentence. */
final class EdgeGreenTest {
    /** One row of five CELLS, an UMPIRE of deafness 0 at its left end and one of 9 at its right end. */
    private static final String ROW = Texts.head(5, 1, 60, 0, 0) + Texts.umpire(0, 0) + Texts.umpire(4, 9);

    private EdgeGreenTest() {
    }

    public static void main(String[] args) {
        termIIfar();
        termIInoLessThanFarAndDeaf();
        termIIaboveZero();
        termIIwindFromFirstToLast();
        p06players();
        p06what();
        p06now();
        p06friends();
        p06noneSuch();
        p07umpires();
        p07what();
        p07noneSuch();
        p08cells();
        p08noneSuch();
        p09minutes();
        p09blows();
        p09noGreen();
        p10loudness();
        p10cells();
        p10noWind();
        p10noneSuch();
        p11loudness();
        p11bits();
        p11noGreen();
        p12greatest();
        p12cells();
        p12noneSuch();
        p13minutes();
        p13outOrNot();
        p13noGreen();
        p24cells();
        p24fromNobodyToAll();
        p24noneSuch();
        p25players();
        p25firstOfSeveral();
        p25none();
        p25noneSuch();
        p65what();
        p65emptyAndFull();
        Check.finish("EdgeGreenTest");
    }

    private static void due(String what, long got, long want) {
        Check.due(what, got, want);
    }

    /** II: "FAR: of two CELLS the steps between them by rows and columns" */
    private static void termIIfar() {
        SilenceMatch x = Texts.made(Texts.head(5, 4, 60, 0, 0));
        due("of one", x.far(7, 7), 0);
        due("the end of a row and the next one's begin", x.far(4, 5), 5);
        due("of opposite corners", x.far(0, 19), 7);
        due("of opposite corners", x.far(15, 4), 7);
        due("either way", x.far(4, 15), 7);
        SilenceMatch column = Texts.made(Texts.head(1, 4, 60, 0, 0));
        due("in one column", column.far(0, 3), 3);
        due("in one column", column.far(3, 0), 3);
    }

    /** II: "if it is no less than FAR from him and deaf together" */
    private static void termIInoLessThanFarAndDeaf() {
        SilenceMatch x = Texts.made(ROW);
        for (int cell = 0; cell < 5; cell++) {
            for (int loud = 1; loud <= 12; loud++) {
                int want = (loud >= cell ? 1 : 0) | (loud >= 4 - cell + 9 ? 2 : 0);
                due("ears " + cell + " " + loud, x.ears(cell, loud), want);
            }
        }
        due("12 just heard", x.ears(1, 12), 3);
        due("13 would be needed", x.ears(0, 12), 1);
    }

    /** II: "and above 0" */
    private static void termIIaboveZero() {
        SilenceMatch x = Texts.made(Texts.head(5, 1, 60, 0, 0) + Texts.umpire(0, 0) + Texts.player(0, 0, 0, 4)
                + Texts.player(0, 0, 1, 30) + Texts.friends(0, 1));
        due("0 beside him", x.ears(0, 0), 0);
        due("1 beside him", x.ears(0, 1), 1);
        due("a cough of 0", x.out(0), -1);
        due("a cough of 1", x.out(1), 30);
        due("laughter of 0 comes", x.laughs(31), 1);
        due("and is not heard", x.outs(31), 0);
    }

    /** II: "no WIND blows (from its first minute to its last one)" */
    private static void termIIwindFromFirstToLast() {
        String head = Texts.head(1, 1, 9, 0, 0) + Texts.umpire(0, 0) + Texts.player(0, 0, 1, 4);
        due("it ends ahead of the cough", Texts.made(head + Texts.wind(1, 3)).out(0), 4);
        due("the cough is in its last minute", Texts.made(head + Texts.wind(1, 4)).out(0), 8);
        due("the cough is in its first minute", Texts.made(head + Texts.wind(4, 7)).out(0), 8);
        due("it begins behind the cough", Texts.made(head + Texts.wind(5, 60)).out(0), 4);
        due("one minute alone", Texts.made(head + Texts.wind(4, 4)).out(0), 8);
        due("both coughs", Texts.made(head + Texts.wind(4, 8)).out(0), -1);
        due("three WINDS", Texts.made(head + Texts.wind(60, 60) + Texts.wind(8, 8) + Texts.wind(4, 4)).out(0), -1);
    }

    /** 6: "Of a PLAYER now" (0 .. 7) */
    private static void p06players() {
        SilenceMatch x = Texts.made(Texts.FULL);
        Edge.of("CELL", n -> x.player(n, 1), 0, 0, 7, 19, -2);
        SilenceMatch y = Texts.made(Texts.BASE);
        Edge.of("every", n -> y.player(n, 3), 0, 4, 3, 7, -2);
        SilenceMatch z = Texts.made(Texts.TINY + Texts.player(1, 0, 0, 4));
        Edge.of("one alone", n -> z.player(n, 0), 0, 1, 0, 1, -2);
    }

    /** 6: "what 0: SIDE, 1: CELL, 2: loud, 3: every, 4: his FRIENDS, as bits" */
    private static void p06what() {
        SilenceMatch x = Texts.made(Texts.FULL);
        Edge.of("what", n -> x.player(7, n), 0, 1, 4, 65, -2);
    }

    /** 6: "now" */
    private static void p06now() {
        SilenceMatch x = Texts.made(Texts.FULL);
        x.move(7, 0);
        x.lozenge(7, 0);
        due("CELL", x.player(7, 1), 0);
        due("loud", x.player(7, 2), 0);
        due("every", x.player(7, 3), 30);
        x.undo();
        due("loud", x.player(7, 2), 12);
    }

    /** 6: "4: his FRIENDS, as bits", from none to all others */
    private static void p06friends() {
        SilenceMatch x = Texts.made(Texts.TINY + Texts.player(0, 0, 0, 4).repeat(8) + Texts.friends(7, 0)
                + Texts.friends(1, 7) + Texts.friends(7, 2) + Texts.friends(3, 7) + Texts.friends(7, 4)
                + Texts.friends(5, 7) + Texts.friends(7, 5));
        due("all but one and himself", x.player(7, 4), 63);
        due("one", x.player(5, 4), 128);
        due("none", x.player(6, 4), 0);
    }

    /** 6: "-2: there are none such" */
    private static void p06noneSuch() {
        SilenceMatch x = new SilenceMatch();
        Edge.of("no GREEN", n -> x.player(n, 0), 0, -2, 7, -2, -2);
        SilenceMatch y = Texts.made(Texts.TINY);
        Edge.of("nobody", n -> y.player(n, 0), 0, -2, 7, -2, -2);
        due("neither such", Texts.made(Texts.FULL).player(8, 5), -2);
    }

    /** 7: "Of an UMPIRE" (0 .. 3) */
    private static void p07umpires() {
        SilenceMatch x = Texts.made(Texts.FULL);
        Edge.of("CELL", n -> x.umpire(n, 0), 0, 0, 3, 15, -2);
        SilenceMatch y = Texts.made(Texts.BASE);
        Edge.of("deaf", n -> y.umpire(n, 1), 0, 0, 1, 1, -2);
    }

    /** 7: "what 0: CELL, 1: deaf" */
    private static void p07what() {
        SilenceMatch x = Texts.made(Texts.FULL);
        Edge.of("what", n -> x.umpire(3, n), 0, 15, 1, 9, -2);
    }

    /** 7: "-2: there are none such" */
    private static void p07noneSuch() {
        SilenceMatch x = new SilenceMatch();
        Edge.of("no GREEN", n -> x.umpire(n, 0), 0, -2, 3, -2, -2);
        SilenceMatch y = Texts.made(Texts.TINY);
        Edge.of("nobody", n -> y.umpire(n, 1), 0, -2, 3, -2, -2);
    }

    /** 8: "FAR (II) of two CELLS" */
    private static void p08cells() {
        SilenceMatch x = Texts.made(Texts.FULL);
        Edge.of("first", n -> x.far(n, 0), 0, 0, 19, 7, -2);
        Edge.of("second", n -> x.far(0, n), 0, 0, 19, 7, -2);
        SilenceMatch y = Texts.made(Texts.BASE);
        Edge.of("first of six", n -> y.far(n, 5), 0, 3, 5, 0, -2);
        Edge.of("second of six", n -> y.far(5, n), 0, 3, 5, 0, -2);
        SilenceMatch z = Texts.made(Texts.TINY);
        Edge.of("one alone", n -> z.far(n, 0), 0, 0, 0, 0, -2);
    }

    /** 8: "-2: there are none such" */
    private static void p08noneSuch() {
        SilenceMatch x = new SilenceMatch();
        Edge.of("no GREEN", n -> x.far(n, n), 0, -2, 19, -2, -2);
        SilenceMatch y = Texts.made(Texts.FULL);
        Edge.refused("neither", n -> y.far(n, n), 0, 19, -2);
    }

    /** 9: "in a minute (1 .. 60)", whenever the bell is */
    private static void p09minutes() {
        SilenceMatch x = Texts.made(Texts.FULL);
        Edge.of("minute", n -> x.wind(n), 1, 1, 60, 1, -2);
        SilenceMatch y = Texts.made(Texts.TINY + Texts.wind(60, 60));
        Edge.of("behind the bell", n -> y.wind(n), 1, 0, 60, 1, -2);
        y.bell(60);
        Edge.of("another bell", n -> y.wind(n), 1, 0, 60, 1, -2);
    }

    /** 9: "1 if some WIND blows", "else 0" */
    private static void p09blows() {
        SilenceMatch x = Texts.made(Texts.FULL);
        int[] minutes = {3, 4, 9, 10, 20, 21, 59, 60};
        int[] wants = {1, 0, 0, 1, 1, 0, 0, 1};
        for (int i = 0; i < minutes.length; i++) {
            due("wind " + minutes[i], x.wind(minutes[i]), wants[i]);
        }
        SilenceMatch y = Texts.made(Texts.TINY + Texts.wind(5, 9) + Texts.wind(7, 30) + Texts.wind(9, 9));
        int[] others = {4, 5, 9, 30, 31};
        int[] blows = {0, 1, 1, 1, 0};
        for (int i = 0; i < others.length; i++) {
            due("WINDS at once " + others[i], y.wind(others[i]), blows[i]);
        }
    }

    /** 9: "-2: there is none such, no GREEN" */
    private static void p09noGreen() {
        SilenceMatch x = new SilenceMatch();
        Edge.of("no GREEN", n -> x.wind(n), 1, -2, 60, -2, -2);
        SilenceMatch y = Texts.made(Texts.TINY);
        due("no WIND", y.wind(1), 0);
        y.green();
        due("no GREEN any more", y.wind(1), -2);
    }

    /** 10: "a sound of a loudness (0 .. 12)" */
    private static void p10loudness() {
        SilenceMatch x = Texts.made(Texts.FULL);
        Edge.of("loudness", n -> x.ears(19, n), 0, 0, 12, 7, -2);
    }

    /** 10: "from a CELL" */
    private static void p10cells() {
        SilenceMatch x = Texts.made(Texts.FULL);
        Edge.of("CELL", n -> x.ears(n, 12), 0, 9, 19, 7, -2);
        SilenceMatch y = Texts.made(Texts.BASE);
        Edge.of("CELL of six", n -> y.ears(n, 2), 0, 1, 5, 2, -2);
    }

    /** 10: "no WIND, as bits": a WIND that blows all the time changes nothing; nobody, and all four */
    private static void p10noWind() {
        SilenceMatch x = Texts.made(Texts.TINY + Texts.wind(1, 60) + Texts.umpire(0, 9).repeat(4));
        due("all", x.ears(0, 9), 15);
        due("none", x.ears(0, 8), 0);
        due("no UMPIRES", Texts.made(Texts.TINY).ears(0, 12), 0);
    }

    /** 10: "-2: there are none such" */
    private static void p10noneSuch() {
        SilenceMatch x = new SilenceMatch();
        Edge.of("no GREEN", n -> x.ears(0, n), 0, -2, 12, -2, -2);
        due("neither", Texts.made(Texts.FULL).ears(20, 13), -2);
    }

    /** 11: "a sound of a loudness (0 .. 12)" */
    private static void p11loudness() {
        SilenceMatch x = Texts.made(Texts.FULL);
        Edge.of("loudness", n -> x.dead(n), 0, 1048575, 12, 0, -2);
    }

    /** 11: "CELLS from which none HEARS a sound .. as bits", the last one and all */
    private static void p11bits() {
        SilenceMatch x = Texts.made(Texts.FULL);
        due("the last CELL alone", x.dead(6), 1 << 19);
        due("none", x.dead(7), 0);
        due("no UMPIRES", Texts.made(Texts.head(5, 4, 1, 0, 0)).dead(12), 1048575);
        SilenceMatch y = Texts.made(Texts.TINY + Texts.umpire(0, 9) + Texts.wind(1, 60));
        due("one CELL", y.dead(8), 1);
        due("one CELL, no WIND", y.dead(9), 0);
    }

    /** 11: "-2: there is none such, no GREEN" */
    private static void p11noGreen() {
        SilenceMatch x = new SilenceMatch();
        Edge.of("no GREEN", n -> x.dead(n), 0, -2, 12, -2, -2);
    }

    /** 12: "The greatest loudness (0 .. 12) that none HEARS" */
    private static void p12greatest() {
        SilenceMatch x = Texts.made(Texts.head(5, 1, 60, 0, 0) + Texts.umpire(0, 9));
        int[] wants = {8, 9, 10, 11, 12};
        for (int cell = 0; cell < 5; cell++) {
            due("quiet " + cell, x.quiet(cell), wants[cell]);
        }
        due("0 is always unheard", Texts.made(Texts.TINY + Texts.umpire(0, 0)).quiet(0), 0);
        due("deaf 1", Texts.made(Texts.TINY + Texts.umpire(0, 1)).quiet(0), 0);
        due("deaf 2", Texts.made(Texts.TINY + Texts.umpire(0, 2)).quiet(0), 1);
        due("no UMPIRES", Texts.made(Texts.TINY).quiet(0), 12);
        due("no WIND", Texts.made(Texts.TINY + Texts.umpire(0, 0) + Texts.wind(1, 60)).quiet(0), 0);
    }

    /** 12: "from a CELL" */
    private static void p12cells() {
        SilenceMatch x = Texts.made(Texts.FULL);
        Edge.of("CELL", n -> x.quiet(n), 0, 0, 19, 6, -2);
    }

    /** 12: "-2: there is none such" */
    private static void p12noneSuch() {
        SilenceMatch x = new SilenceMatch();
        Edge.of("no GREEN", n -> x.quiet(n), 0, -2, 19, -2, -2);
        SilenceMatch y = Texts.made(Texts.TINY);
        Edge.refused("one CELL", n -> y.quiet(n), 0, 0, -2);
    }

    /** 13: "in a minute (1 .. bell)" */
    private static void p13minutes() {
        SilenceMatch x = Texts.made(Texts.FULL);
        Edge.of("minute", n -> x.coughs(n), 1, 0, 60, 255, -2);
        SilenceMatch y = Texts.made(Texts.BASE);
        Edge.of("bell 20", n -> y.coughs(n), 1, 0, 20, 3, -2);
        y.bell(4);
        Edge.of("bell 4", n -> y.coughs(n), 1, 0, 4, 1, -2);
        y.bell(1);
        Edge.of("bell 1", n -> y.coughs(n), 1, 0, 1, 0, -2);
        y.bell(60);
        Edge.of("bell 60", n -> y.coughs(n), 1, 0, 60, 7, -2);
    }

    /** 13: "OUT or not, as bits" */
    private static void p13outOrNot() {
        SilenceMatch x = Texts.made(Texts.FULL);
        due("ahead of his every", x.coughs(3), 0);
        due("not OUT", x.coughs(4), 1);
        due("OUT", x.coughs(8), 1);
        due("in a WIND", x.coughs(12), 1);
        due("a cough of loud 0", x.coughs(30), 254);
    }

    /** 13: "-2: there is none such, no GREEN" */
    private static void p13noGreen() {
        SilenceMatch x = new SilenceMatch();
        Edge.of("no GREEN", n -> x.coughs(n), 1, -2, 60, -2, -2);
    }

    /** 24: "PLAYERS in a CELL" */
    private static void p24cells() {
        SilenceMatch x = Texts.made(Texts.FULL);
        Edge.of("CELL", n -> x.crowd(n), 0, 1, 19, 128, -2);
        SilenceMatch y = Texts.made(Texts.BASE);
        Edge.of("CELL of six", n -> y.crowd(n), 0, 1, 5, 8, -2);
    }

    /** 24: "as bits", from nobody to all */
    private static void p24fromNobodyToAll() {
        SilenceMatch x = Texts.made(Texts.FULL);
        due("nobody", x.crowd(18), 0);
        for (int p = 0; p < 8; p++) {
            x.move(p, 18);
        }
        due("all, OUT or not", x.crowd(18), 255);
        due("where they were", x.crowd(19), 0);
    }

    /** 24: "-2: there is none such" */
    private static void p24noneSuch() {
        SilenceMatch x = new SilenceMatch();
        Edge.of("no GREEN", n -> x.crowd(n), 0, -2, 19, -2, -2);
    }

    /** 25: "The UMPIRE who is least FAR from a PLAYER" */
    private static void p25players() {
        SilenceMatch x = Texts.made(Texts.FULL);
        Edge.of("PLAYER", n -> x.near(n), 0, 0, 7, 1, -2);
        x.move(7, 15);
        due("the last UMPIRE", x.near(7), 3);
        x.move(7, 14);
        due("deaf or not", x.near(7), 1);
    }

    /** 25: "the first of several" */
    private static void p25firstOfSeveral() {
        String head = Texts.head(5, 1, 60, 0, 0) + Texts.player(0, 2, 1, 4);
        due("alike", Texts.made(head + Texts.umpire(4, 9) + Texts.umpire(0, 0)).near(0), 0);
        due("all four alike", Texts.made(head + Texts.umpire(2, 9) + Texts.umpire(2, 0).repeat(3)).near(0), 0);
        due("one step less", Texts.made(head + Texts.umpire(4, 0) + Texts.umpire(1, 9) + Texts.umpire(3, 0)).near(0), 1);
    }

    /** 25: "NONE: there is none" */
    private static void p25none() {
        SilenceMatch x = Texts.made(Texts.head(5, 4, 60, 0, 0) + Texts.player(0, 2, 1, 4));
        Edge.of("no UMPIRES", n -> x.near(n), 0, -1, 0, -1, -2);
        due("one, as far as can be", Texts.made(Texts.head(5, 4, 60, 0, 0) + Texts.player(0, 19, 1, 4)
                + Texts.umpire(0, 0)).near(0), 0);
    }

    /** 25: "-2: there is none such" */
    private static void p25noneSuch() {
        SilenceMatch x = new SilenceMatch();
        Edge.of("no GREEN", n -> x.near(n), 0, -2, 7, -2, -2);
        SilenceMatch y = Texts.made(Texts.TINY + Texts.umpire(0, 0));
        Edge.of("nobody", n -> y.near(n), 0, -2, 7, -2, -2);
    }

    /** 65: "NONE for others" */
    private static void p65what() {
        SilenceMatch x = Texts.made(Texts.FULL);
        x.row(0, 0, 0);
        Edge.of("what", n -> x.count(n), 0, 5, 13, 1, -1);
        SilenceMatch y = new SilenceMatch();
        Edge.of("what without a GREEN", n -> y.count(n), 0, 0, 13, 0, -1);
    }

    /** 65: "0 wide, 1 high, 2 bell, .. 13 SLOTS that have a row", of nothing and of all that there may be */
    private static void p65emptyAndFull() {
        SilenceMatch x = new SilenceMatch();
        for (int what = 0; what <= 13; what++) {
            due("empty " + what, x.count(what), 0);
        }
        Texts.load(x, Texts.FULL);
        for (int act = 0; act < 41; act++) {
            x.move(act % 8, act % 20);
        }
        for (int slot = -1; slot < 5; slot++) {
            x.row(slot, 3, 60);
            x.row(slot, 0, 0);
        }
        for (int i = 0; i < 46; i++) {
            x.feed(i, i, i, i, i);
        }
        int[] full = {5, 4, 60, 12, 10, 20, 8, 4, 3, 9, 40, 25, 900, 4};
        for (int what = 0; what <= 13; what++) {
            due("full " + what, x.count(what), full[what]);
        }
        x.bell(1);
        due("bell with acts", x.count(2), 60);
        x.anew();
        x.bell(1);
        due("bell", x.count(2), 1);
        due("acts", x.count(10), 0);
    }
}
