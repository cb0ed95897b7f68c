/** Edges of promises 30 to 45: what would be otherwise, COVER and FRIENDS; one method for a sentence. */
final class EdgeSearchTest {
    private static final String EAR = Texts.umpire(0, 0);
    private static final String LOUD4 = Texts.player(0, 0, 1, 4);
    private static final String MUTE = Texts.player(0, 0, 0, 30);
    private static final String LINE = Texts.head(5, 1, 9, 0, 1);
    private static final String WIDEST = Texts.head(5, 4, 9, 0, 1);
    private static final int ALL_CELLS = 1048575;

    private EdgeSearchTest() {
    }

    public static void main(String[] args) {
        p30fewest();
        p30fewerThanNow();
        p30firstOfSeveral();
        p30noGreen();
        p31pairs();
        p31mostAbove();
        p31moreThanNow();
        p31firstOfSeveral();
        p31sides();
        p32groups();
        p32noGreen();
        p33cells();
        p33players();
        p33othersAsTheyAre();
        p34neverIsLatest();
        p34firstOfSeveral();
        p34noneSuch();
        p35minutes();
        p35noneSuch();
        p36mostAbove();
        p36noneSuch();
        p37fromLeastToMost();
        p37noneSuch();
        p38loudness();
        p38withNone();
        p38noneSuch();
        p39terms();
        p39fewest();
        p39noneElse();
        p39byNone();
        p39noGreen();
        p40fromZero();
        p40leastRow();
        p40noneSuch();
        p41terms();
        p41most();
        p41none();
        p41noGreen();
        p42spread();
        p42noneSuch();
        p43fewest();
        p43oneTwice();
        p43noneSuch();
        p44leastSet();
        p44likewise();
        p45fewest();
        p45fewerThanNow();
        p45noGreen();
        Check.finish("EdgeSearchTest");
    }

    private static void due(String what, long got, long want) {
        Check.due(what, got, want);
    }

    private static SilenceMatch one(int bell, int laugh, String lines) {
        return Texts.made(Texts.head(1, 1, bell, laugh, 1) + lines);
    }

    /** 30: "The UMPIRE without whom fewest are OUT" */
    private static void p30fewest() {
        due("one alone", one(9, 0, EAR + LOUD4).fire(), 0);
        due("the last of four", one(9, 0, Texts.umpire(0, 9).repeat(3) + EAR + LOUD4).fire(), 3);
        SilenceMatch x = Texts.made(LINE + Texts.umpire(0, 0) + Texts.umpire(4, 0) + LOUD4
                + Texts.player(0, 4, 1, 4).repeat(2));
        due("without the second fewer than without the first", x.fire(), 1);
        // Without UMPIRE 0 one less is OUT, without UMPIRE 1 two less are: nobody laughs then.
        SilenceMatch y = Texts.made(Texts.head(5, 1, 9, 12, 1) + Texts.umpire(4, 0) + Texts.umpire(0, 0)
                + Texts.player(0, 4, 1, 4) + LOUD4 + MUTE + Texts.friends(1, 2));
        due("laughter counts", y.fire(), 1);
        // UMPIRES 0 and 1 HEAR the cough, either; UMPIRE 2 alone HEARS the laughter at it.
        SilenceMatch z = Texts.made(Texts.head(5, 1, 9, 4, 1) + Texts.umpire(0, 7).repeat(2) + Texts.umpire(4, 4)
                + Texts.player(0, 0, 7, 4) + Texts.player(0, 4, 0, 30) + Texts.friends(0, 1));
        due("who HEARS laughter alone", z.fire(), 2);
    }

    /** 30: "if fewer than now", "NONE: none" */
    private static void p30fewerThanNow() {
        due("no UMPIRES", one(9, 0, LOUD4).fire(), -1);
        due("nobody is OUT", one(3, 0, EAR + LOUD4).fire(), -1);
        due("another one HEARS as much", one(9, 0, EAR + EAR + LOUD4).fire(), -1);
        due("nobody plays", Texts.made(Texts.TINY).fire(), -1);
    }

    /** 30: "the first of several" */
    private static void p30firstOfSeveral() {
        SilenceMatch x = Texts.made(LINE + Texts.umpire(2, 9) + Texts.umpire(4, 0) + Texts.umpire(0, 0) + LOUD4
                + Texts.player(0, 4, 1, 4));
        due("without either one is OUT", x.fire(), 1);
    }

    /** 30: "-2: there is no GREEN" */
    private static void p30noGreen() {
        due("no GREEN", new SilenceMatch().fire(), -2);
    }

    /** 31: "The pair of PLAYERS of a SIDE (10 times the lesser and the other one)", from 0 and 1 to 6 and 7 */
    private static void p31pairs() {
        SilenceMatch x = Texts.made(LINE + EAR + LOUD4 + Texts.player(0, 4, 0, 4));
        due("0 and 1", x.swap(0), 1);
        SilenceMatch y = Texts.made(LINE + EAR + Texts.player(1, 2, 1, 4).repeat(6) + LOUD4 + Texts.player(0, 4, 0, 4));
        due("6 and 7", y.swap(0), 67);
        due("all in one CELL", y.swap(1), -1);
        SilenceMatch z = Texts.made(LINE + EAR + LOUD4 + Texts.player(1, 2, 1, 4).repeat(6) + Texts.player(0, 4, 0, 4));
        due("0 and 7", z.swap(0), 7);
    }

    /** 31: "bring its SCORE at the bell most above the other one's" */
    private static void p31mostAbove() {
        // 1 has a FRIEND of his own SIDE who laughs at him: to save 0 gains one, to save 1 gains two.
        SilenceMatch x = Texts.made(Texts.head(5, 1, 9, 12, 1) + EAR + LOUD4 + LOUD4 + Texts.player(0, 4, 0, 30).repeat(2)
                + Texts.friends(1, 3));
        due("12 ahead of 02", x.swap(0), 12);
        // 1 has two FRIENDS of the other SIDE: to save him gains one and loses two.
        SilenceMatch y = Texts.made(Texts.head(5, 1, 9, 12, 1) + EAR + Texts.player(0, 4, 0, 30) + LOUD4
                + Texts.player(1, 4, 0, 30).repeat(2) + Texts.friends(1, 2) + Texts.friends(3, 1));
        due("01 gains less than it loses", y.swap(0), -1);
        due("as it is", y.score(0, 9) - y.score(1, 9), 1);
    }

    /** 31: "if more than now", "NONE: none" */
    private static void p31moreThanNow() {
        due("nobody", Texts.made(Texts.TINY).swap(0), -1);
        due("one alone", Texts.made(LINE + EAR + LOUD4).swap(0), -1);
        due("one on each SIDE", Texts.made(LINE + EAR + LOUD4 + Texts.player(1, 4, 0, 4)).swap(0), -1);
        due("as many as now", Texts.made(LINE + EAR + LOUD4 + Texts.player(0, 4, 1, 4)).swap(0), -1);
        due("fewer than now", Texts.made(LINE + EAR + MUTE + Texts.player(0, 4, 1, 4)).swap(0), -1);
    }

    /** 31: "the first of several" */
    private static void p31firstOfSeveral() {
        SilenceMatch x = Texts.made(LINE + EAR + Texts.player(0, 4, 0, 4) + Texts.player(0, 0, 1, 4)
                + Texts.player(0, 4, 0, 4) + Texts.player(0, 0, 1, 4));
        due("01, 03, 12, 23 are alike", x.swap(0), 1);
        // CELL 3 is safe for a loud of 2, CELL 2 for a loud of 1 alone: 03 saves nobody, 02, 12 and 13 save one each.
        SilenceMatch y = Texts.made(LINE + EAR + Texts.player(0, 0, 2, 4) + Texts.player(0, 0, 1, 4)
                + Texts.player(0, 3, 0, 4) + Texts.player(0, 2, 0, 4));
        due("02 ahead of 12 and 13", y.swap(0), 2);
    }

    /** 31: "-2: there is no such SIDE, no GREEN" */
    private static void p31sides() {
        SilenceMatch x = Texts.made(LINE + EAR + LOUD4 + Texts.player(0, 4, 0, 4) + Texts.player(1, 4, 0, 4)
                + Texts.player(1, 0, 1, 4));
        Edge.of("SIDE", n -> x.swap(n), 0, 1, 1, 23, -2);
        SilenceMatch y = new SilenceMatch();
        Edge.of("no GREEN", n -> y.swap(n), 0, -2, 1, -2, -2);
    }

    /** 32: "GROUPS of PLAYERS by FRIENDS of FRIENDS (one without any is one): how many." */
    private static void p32groups() {
        due("nobody", Texts.made(Texts.TINY).groups(), 0);
        due("one", one(9, 0, MUTE).groups(), 1);
        due("eight alone", one(9, 0, MUTE.repeat(8)).groups(), 8);
        due("seven", one(9, 0, MUTE.repeat(8) + Texts.friends(7, 0)).groups(), 7);
        due("all in one", Texts.made(Texts.FULL).groups(), 1);
        due("a long row, told from its end", one(9, 0, MUTE.repeat(8) + Texts.friends(6, 7) + Texts.friends(5, 6)
                + Texts.friends(4, 5) + Texts.friends(3, 4) + Texts.friends(2, 3) + Texts.friends(1, 2)
                + Texts.friends(0, 1)).groups(), 1);
    }

    /** 32: "-2: there is no GREEN" */
    private static void p32noGreen() {
        due("no GREEN", new SilenceMatch().groups(), -2);
    }

    /** 33: "CELLS in which a PLAYER .. is never OUT, as bits", from none to all */
    private static void p33cells() {
        due("all", Texts.made(WIDEST + LOUD4).safe(0), ALL_CELLS);
        due("the last alone", Texts.made(WIDEST + EAR + Texts.player(0, 0, 6, 4)).safe(0), 1 << 19);
        due("none", Texts.made(WIDEST + EAR + Texts.player(0, 0, 7, 4)).safe(0), 0);
        due("the first alone", Texts.made(WIDEST + Texts.umpire(19, 0) + Texts.player(0, 9, 6, 4)).safe(0), 1);
        due("one CELL", one(9, 0, EAR + LOUD4).safe(0), 0);
        due("one CELL", one(3, 0, EAR + LOUD4).safe(0), 1);
    }

    /** 33: "-2: there is none such" */
    private static void p33players() {
        SilenceMatch x = Texts.made(WIDEST + EAR + Texts.player(0, 0, 7, 4) + MUTE.repeat(7));
        Edge.of("PLAYER", n -> x.safe(n), 0, 0, 7, ALL_CELLS, -2);
        SilenceMatch y = new SilenceMatch();
        Edge.of("no GREEN", n -> y.safe(n), 0, -2, 7, -2, -2);
    }

    /** 33: "all others as they are" */
    private static void p33othersAsTheyAre() {
        // 1 laughs at 0 in minute 5: heard in CELLS 0 and 1 alone.
        SilenceMatch x = Texts.made(Texts.head(5, 1, 9, 1, 1) + EAR + LOUD4 + MUTE + Texts.friends(0, 1));
        due("safe from laughter", x.safe(1), 28);
        due("where he was", x.player(1, 1), 0);
        due("no acts", x.count(10), 0);
        x.lozenge(0, 0);
        due("nobody to laugh at", x.safe(1), 31);
    }

    /** 34: "The CELL in which he is OUT latest (never is latest)" */
    private static void p34neverIsLatest() {
        due("the last alone", Texts.made(WIDEST + EAR + Texts.player(0, 0, 6, 4)).place(0), 19);
        // 1 coughs in minute 4, heard in CELLS 0 and 1; he laughs at 0 in minute 9, heard in all.
        SilenceMatch x = Texts.made(Texts.head(5, 1, 20, 4, 1) + EAR + Texts.player(0, 0, 1, 8) + LOUD4
                + Texts.friends(0, 1));
        due("latest", x.place(1), 2);
        due("in minute 9", x.lasts(1), 9);
    }

    /** 34: "the first of several" */
    private static void p34firstOfSeveral() {
        due("OUT alike in all", Texts.made(WIDEST + EAR + Texts.player(0, 9, 7, 4)).place(0), 0);
        due("never in all", Texts.made(WIDEST + Texts.player(0, 9, 7, 4)).place(0), 0);
        due("never in some", Texts.made(LINE + EAR + Texts.player(0, 0, 2, 4)).place(0), 3);
        due("none but the one CELL", one(9, 0, Texts.umpire(0, 5) + Texts.player(0, 0, 5, 4)).place(0), 0);
        due("none but the one CELL", one(9, 0, Texts.umpire(0, 5) + Texts.player(0, 0, 5, 4)).lasts(0), 4);
    }

    /** 34: "-2 likewise" */
    private static void p34noneSuch() {
        SilenceMatch x = Texts.made(WIDEST + EAR + Texts.player(0, 0, 6, 4) + MUTE.repeat(7));
        Edge.of("PLAYER", n -> x.place(n), 0, 19, 7, 0, -2);
        SilenceMatch y = new SilenceMatch();
        Edge.of("no GREEN", n -> y.place(n), 0, -2, 7, -2, -2);
    }

    /** 35: "The minute in which he is OUT there. NONE: never" */
    private static void p35minutes() {
        due("the bell's", one(4, 0, EAR + LOUD4).lasts(0), 4);
        due("behind the bell", one(3, 0, EAR + LOUD4).lasts(0), -1);
        due("60", one(60, 0, EAR + Texts.player(0, 0, 1, 30) + Texts.wind(30, 59)).lasts(0), 60);
        due("never in one CELL", Texts.made(WIDEST + EAR + Texts.player(0, 0, 6, 4)).lasts(0), -1);
    }

    /** 35: "-2 likewise" */
    private static void p35noneSuch() {
        SilenceMatch x = one(9, 0, EAR + LOUD4 + MUTE.repeat(7));
        Edge.of("PLAYER", n -> x.lasts(n), 0, 4, 7, -1, -2);
        SilenceMatch y = new SilenceMatch();
        Edge.of("no GREEN", n -> y.lasts(n), 0, -2, 7, -2, -2);
    }

    /** 36: "most above the other one's, the first of several" */
    private static void p36mostAbove() {
        due("all alike", Texts.made(WIDEST + LOUD4).best(0), 0);
        due("the last alone", Texts.made(WIDEST + EAR + Texts.player(0, 0, 6, 4)).best(0), 19);
        due("some alike", Texts.made(LINE + EAR + Texts.player(0, 0, 2, 4)).best(0), 3);
        due("none but the one CELL", one(9, 0, Texts.umpire(0, 5) + Texts.player(0, 0, 5, 4)).best(0), 0);
        due("none but the one CELL", one(9, 0, Texts.umpire(0, 5) + Texts.player(0, 0, 5, 4)).gains(0), 0);
        // 0 is heard near the UMPIRE; then both of the other SIDE laugh and are OUT: 0 : 0, else 1 : 2.
        SilenceMatch x = Texts.made(Texts.head(5, 1, 9, 4, 1) + EAR + Texts.player(0, 4, 1, 4)
                + Texts.player(1, 0, 0, 30).repeat(2) + Texts.friends(0, 1) + Texts.friends(0, 2));
        due("OUT himself, but two of the others too", x.best(0), 0);
        due("so much above", x.gains(0), 0);
    }

    /** 36: "-2 likewise" */
    private static void p36noneSuch() {
        SilenceMatch x = Texts.made(WIDEST + EAR + Texts.player(0, 0, 6, 4) + MUTE.repeat(7));
        Edge.of("PLAYER", n -> x.best(n), 0, 19, 7, 0, -2);
        SilenceMatch y = new SilenceMatch();
        Edge.of("no GREEN", n -> y.best(n), 0, -2, 7, -2, -2);
    }

    /** 37: "By how much it is so (below 0: less)." */
    private static void p37fromLeastToMost() {
        due("the most", one(9, 0, MUTE.repeat(8)).gains(7), 8);
        due("the least", one(9, 0, EAR + MUTE.repeat(7) + Texts.player(1, 0, 1, 4)).gains(7), -7);
        due("as much", one(9, 0, MUTE + Texts.player(1, 0, 1, 4)).gains(1), 0);
        due("NONE would be one less", one(9, 0, EAR + MUTE + Texts.player(1, 0, 1, 4)).gains(1), -1);
    }

    /** 37: "-1,000: there is none such." */
    private static void p37noneSuch() {
        SilenceMatch x = one(9, 0, MUTE.repeat(8));
        Edge.of("PLAYER", n -> x.gains(n), 0, 8, 7, 8, -1000);
        SilenceMatch y = new SilenceMatch();
        Edge.of("no GREEN", n -> y.gains(n), 0, -1000, 7, -1000, -1000);
        SilenceMatch z = Texts.made(Texts.TINY);
        Edge.of("nobody", n -> z.gains(n), 0, -1000, 7, -1000, -1000);
    }

    /** 38: "The greatest loud (0 .. 12) with which a PLAYER .. is never OUT." */
    private static void p38loudness() {
        due("12, no UMPIRES", one(60, 0, LOUD4).hush(0), 12);
        due("12, behind the bell", one(3, 0, EAR + LOUD4).hush(0), 12);
        due("0", one(60, 0, EAR + LOUD4).hush(0), 0);
        int[] wants = {8, 9, 10, 11, 12};
        for (int cell = 0; cell < 5; cell++) {
            SilenceMatch x = Texts.made(LINE + Texts.umpire(0, 9) + Texts.player(0, cell, 12, 4));
            due("in CELL " + cell, x.hush(0), wants[cell]);
        }
        SilenceMatch y = one(60, 0, EAR + LOUD4 + Texts.player(0, 0, 12, 4) + Texts.friends(0, 1));
        due("laughter that is not heard", y.hush(0), 0);
    }

    /** 38: "NONE: with none" */
    private static void p38withNone() {
        SilenceMatch x = one(60, 1, EAR + LOUD4 + MUTE + Texts.friends(0, 1));
        due("he laughs", x.hush(1), -1);
        due("all else as it is", x.player(1, 2), 0);
        x.bell(4);
        due("he would laugh behind the bell", x.hush(1), 12);
    }

    /** 38: "-2: there is none such" */
    private static void p38noneSuch() {
        SilenceMatch x = one(60, 0, LOUD4.repeat(8));
        Edge.of("PLAYER", n -> x.hush(n), 0, 12, 7, 12, -2);
        SilenceMatch y = new SilenceMatch();
        Edge.of("no GREEN", n -> y.hush(n), 0, -2, 7, -2, -2);
    }

    /** 39: "UMPIRES of a deafness (0 .. 9)", "a sound of a loudness (1 .. 12)" */
    private static void p39terms() {
        SilenceMatch x = Texts.made(LINE);
        Edge.of("deafness", n -> x.cover(n, 9), 0, 1, 9, 5, -2);
        Edge.of("loudness", n -> x.cover(0, n), 1, 2, 12, 1, -2);
        Edge.of("deafness by the loudest", n -> x.cover(n, 12), 0, 1, 9, 1, -2);
    }

    /** 39: "the fewest UMPIRES", from one to one in each CELL */
    private static void p39fewest() {
        due("one CELL", Texts.made(Texts.TINY).cover(9, 9), 1);
        SilenceMatch x = Texts.made(WIDEST);
        due("one is enough", x.cover(0, 7), 1);
        due("from the middle", x.cover(0, 4), 1);
        due("not from the middle", x.cover(0, 3), 2);
        due("more than four", x.cover(0, 1), 6);
        for (int deaf = 1; deaf <= 9; deaf++) {
            due("each CELL's own", x.cover(deaf, deaf), 20);
        }
    }

    /** 39: "on any CELLS, none else": those of the GREEN do not count, nor do its WINDS */
    private static void p39noneElse() {
        SilenceMatch x = Texts.made(LINE + Texts.umpire(0, 0).repeat(4) + Texts.wind(1, 60));
        due("as without", x.cover(0, 1), 2);
        due("as without", x.covers(0, 1, 0), 0);
        due("as without", x.covers(0, 1, 1), 3);
    }

    /** 39: "NONE: by none" */
    private static void p39byNone() {
        SilenceMatch x = Texts.made(WIDEST);
        due("deafer than loud", x.cover(2, 1), -1);
        due("deafer than loud", x.cover(9, 8), -1);
        due("just so", x.cover(8, 8), 20);
        due("one CELL", Texts.made(Texts.TINY).cover(9, 8), -1);
    }

    /** 39: "-2: there are none such, no GREEN" */
    private static void p39noGreen() {
        SilenceMatch x = new SilenceMatch();
        Edge.of("no GREEN", n -> x.cover(n, 9), 0, -2, 9, -2, -2);
        Edge.of("no GREEN", n -> x.cover(0, n), 1, -2, 12, -2, -2);
        due("neither such", Texts.made(LINE).cover(10, 13), -2);
    }

    /** 40: "The CELL of UMPIRE i (from 0)", "NONE: there is none such" */
    private static void p40fromZero() {
        SilenceMatch x = Texts.made(WIDEST);
        Edge.of("i of 20", n -> x.covers(9, 9, n), 0, 0, 19, 19, -1);
        Edge.of("i of 1", n -> x.covers(0, 12, n), 0, 0, 0, 0, -1);
        Edge.of("i of none", n -> x.covers(9, 8, n), 0, -1, 0, -1, -1);
        SilenceMatch y = Texts.made(LINE);
        Edge.of("i of 2", n -> y.covers(0, 1, n), 0, 0, 1, 3, -1);
    }

    /** 40: "of the first such row (rising CELLS, the least row)" */
    private static void p40leastRow() {
        SilenceMatch x = Texts.made(LINE);
        due("0 3 is less than 1 3 and 1 4", x.covers(0, 1, 0), 0);
        due("0 3", x.covers(0, 1, 1), 3);
        due("the first who reaches all", x.covers(0, 3, 0), 1);
        due("the middle alone", x.covers(0, 2, 0), 2);
        SilenceMatch y = Texts.made(WIDEST);
        for (int i = 0; i < 20; i++) {
            due("rising", y.covers(1, 1, i), i);
        }
    }

    /** 40: "-2 likewise", ahead of NONE */
    private static void p40noneSuch() {
        SilenceMatch x = Texts.made(LINE);
        Edge.of("deafness", n -> x.covers(n, 12, 0), 0, 0, 9, 1, -2);
        Edge.of("loudness", n -> x.covers(0, n, 0), 1, 0, 12, 0, -2);
        Edge.refused("deafness and i", n -> x.covers(n, 12, n), 0, 9, -2);
        due("loudness and i", x.covers(0, 0, -1), -2);
        SilenceMatch y = new SilenceMatch();
        Edge.of("no GREEN", n -> y.covers(0, 1, n), 0, -2, 19, -2, -2);
    }

    /** 41: "of a deafness (0 .. 9)", "of a loudness (1 .. 12)" */
    private static void p41terms() {
        SilenceMatch x = Texts.made(LINE);
        Edge.of("deafness", n -> x.more(n, 12), 0, 0, 9, 1, -2);
        Edge.of("loudness", n -> x.more(0, n), 1, 1, 12, 0, -2);
    }

    /** 41: "from which most CELLS more are HEARD .., the first of several" */
    private static void p41most() {
        SilenceMatch x = Texts.made(LINE + EAR);
        due("2, 3 and 4", x.more(0, 1), 3);
        due("one CELL more each", x.more(1, 1), 2);
        SilenceMatch y = Texts.made(LINE);
        due("1, 2 and 3 are alike", y.more(0, 1), 1);
        due("each alike", y.more(9, 9), 0);
        SilenceMatch z = Texts.made(WIDEST + Texts.umpire(0, 0));
        due("the last CELL is the only one", z.more(6, 6), 19);
        due("the first of those who reach it", z.more(0, 6), 1);
    }

    /** 41: "if any. NONE: none" */
    private static void p41none() {
        SilenceMatch x = Texts.made(LINE + EAR);
        due("all are HEARD", x.more(0, 4), -1);
        due("one is not", x.more(0, 3), 1);
        due("deafer than loud", x.more(4, 3), -1);
        due("just so", x.more(3, 3), 4);
        due("no UMPIRES, deafer than loud", Texts.made(LINE).more(9, 8), -1);
    }

    /** 41: "-2 likewise" */
    private static void p41noGreen() {
        SilenceMatch x = new SilenceMatch();
        Edge.of("no GREEN", n -> x.more(n, 9), 0, -2, 9, -2, -2);
        Edge.of("no GREEN", n -> x.more(0, n), 1, -2, 12, -2, -2);
        due("neither such", Texts.made(LINE).more(-1, 0), -2);
    }

    /** 42: "PLAYERS to whom LAUGHTER comes from one by FRIENDS of FRIENDS (he, too), as bits." */
    private static void p42spread() {
        SilenceMatch x = Texts.made(Texts.FULL);
        Edge.of("all", n -> x.spread(n), 0, 255, 7, 255, -2);
        SilenceMatch y = one(9, 0, MUTE.repeat(8));
        Edge.of("he alone", n -> y.spread(n), 0, 1, 7, 128, -2);
        SilenceMatch z = one(9, 0, MUTE.repeat(8) + Texts.friends(7, 3) + Texts.friends(0, 3));
        due("three", z.spread(7), 137);
        due("three", z.spread(0), 137);
        due("one", z.spread(1), 2);
    }

    /** 42: "-2: there is no such PLAYER" */
    private static void p42noneSuch() {
        SilenceMatch x = new SilenceMatch();
        Edge.of("no GREEN", n -> x.spread(n), 0, -2, 7, -2, -2);
        SilenceMatch y = Texts.made(Texts.TINY);
        Edge.of("nobody", n -> y.spread(n), 0, -2, 7, -2, -2);
    }

    /** 43: "the fewest pairs of FRIENDS to be parted", from none to all nine */
    private static void p43fewest() {
        SilenceMatch x = Texts.made(Texts.FULL);
        due("three ways", x.part(0, 4), 3);
        due("either way", x.part(4, 0), 3);
        due("two ways", x.part(0, 7), 2);
        SilenceMatch y = one(9, 0, MUTE.repeat(8) + Texts.friends(6, 7).repeat(9));
        due("nine", y.part(6, 7), 9);
        due("nine", y.parts(7, 6), 511);
        due("none", y.part(0, 7), 0);
        due("none", y.parts(0, 7), 0);
    }

    /** 43: "NONE: by none (one twice)" */
    private static void p43oneTwice() {
        SilenceMatch x = Texts.made(Texts.FULL);
        for (int p = 0; p < 8; p++) {
            due("part", x.part(p, p), -1);
            due("parts", x.parts(p, p), -1);
        }
        due("without FRIENDS too", one(9, 0, MUTE).part(0, 0), -1);
    }

    /** 43: "-2: there are none such", ahead of NONE */
    private static void p43noneSuch() {
        SilenceMatch x = Texts.made(Texts.FULL);
        Edge.of("first", n -> x.part(n, 0), 0, -1, 7, 2, -2);
        Edge.of("second", n -> x.part(0, n), 0, -1, 7, 2, -2);
        Edge.refused("one twice", n -> x.part(n, n), 0, 7, -2);
        SilenceMatch y = new SilenceMatch();
        Edge.of("no GREEN", n -> y.part(n, n), 0, -2, 7, -2, -2);
    }

    /** 44: "Which pairs, as bits: the least set of so few." */
    private static void p44leastSet() {
        SilenceMatch x = Texts.made(Texts.FULL);
        due("7 and the least of 4, 5, 6", x.parts(0, 7), 144);
        due("8 and the least of 0 .. 3 and of 4 .. 7", x.parts(0, 4), 273);
        due("the ninth pair alone", one(9, 0, MUTE.repeat(3) + Texts.friends(0, 1).repeat(8) + Texts.friends(1, 2))
                .parts(0, 2), 256);
        due("the first of two", one(9, 0, MUTE.repeat(3) + Texts.friends(0, 1) + Texts.friends(1, 2)).parts(0, 2), 1);
    }

    /** 44: "NONE, -2 likewise" */
    private static void p44likewise() {
        SilenceMatch x = Texts.made(Texts.FULL);
        Edge.of("first", n -> x.parts(n, 7), 0, 144, 7, -1, -2);
        Edge.of("second", n -> x.parts(7, n), 0, 144, 7, -1, -2);
        Edge.refused("one twice", n -> x.parts(n, n), 0, 7, -2);
        SilenceMatch y = new SilenceMatch();
        Edge.of("no GREEN", n -> y.parts(n, n), 0, -2, 7, -2, -2);
    }

    /** 45: "The pair of FRIENDS without which fewest are OUT .., the first of several" */
    private static void p45fewest() {
        String ahead = EAR + LOUD4 + MUTE.repeat(3);
        due("the only one", one(9, 1, ahead + Texts.friends(0, 1)).grudge(), 0);
        due("the ninth", one(9, 1, ahead + Texts.friends(2, 3).repeat(8) + Texts.friends(0, 1)).grudge(), 8);
        due("alike", one(9, 1, ahead + Texts.friends(2, 3) + Texts.friends(0, 2) + Texts.friends(1, 0)
                + Texts.friends(3, 1)).grudge(), -1);
        due("the first of several", one(9, 1, ahead + Texts.friends(0, 2) + Texts.friends(0, 1)).grudge(), 0);
        due("the one that saves two", one(9, 1, ahead + Texts.friends(0, 1) + Texts.friends(0, 2) + Texts.friends(2, 3))
                .grudge(), 1);
    }

    /** 45: "if fewer than now", "NONE: none" */
    private static void p45fewerThanNow() {
        due("no FRIENDS", one(9, 1, EAR + LOUD4 + MUTE).grudge(), -1);
        due("told twice", one(9, 1, EAR + LOUD4 + MUTE + Texts.friends(0, 1).repeat(2)).grudge(), -1);
        due("not heard", one(9, 0, EAR + LOUD4 + MUTE + Texts.friends(0, 1)).grudge(), -1);
        due("behind the bell", one(4, 1, EAR + LOUD4 + MUTE + Texts.friends(0, 1)).grudge(), -1);
        due("in the bell's minute", one(5, 1, EAR + LOUD4 + MUTE + Texts.friends(0, 1)).grudge(), 0);
    }

    /** 45: "-2: there is no GREEN" */
    private static void p45noGreen() {
        due("no GREEN", new SilenceMatch().grudge(), -2);
    }
}
