/** Edges of Terms III and IV and of promises 14 to 23 and 26 to 29: the MATCH; one method for a sentence. */
final class EdgeMatchTest {
    /** One CELL with an UMPIRE in it who HEARS all but 0. */
    private static final String EAR = Texts.umpire(0, 0);
    private static final String LOUD4 = Texts.player(0, 0, 1, 4);
    private static final String MUTE = Texts.player(0, 0, 0, 30);

    private EdgeMatchTest() {
    }

    public static void main(String[] args) {
        termIIIminutes();
        termIIImultiples();
        termIIIlaughsInTheMinuteBehind();
        termIIIlaughsLoudEnough();
        termIIIwhoeverIsNotOut();
        termIIIeither();
        termIIIallAtOnce();
        termIVscores();
        p14players();
        p14none();
        p14noneSuch();
        p15minutes();
        p15bits();
        p15noGreen();
        p16minutes();
        p16heardOrNot();
        p16outOnesDoNot();
        p17players();
        p17firstOfSeveral();
        p17notOut();
        p18umpires();
        p18howMany();
        p19sides();
        p19minutes();
        p19noGreen();
        p20sides();
        p20neither();
        p20noGreen();
        p21fromZeroToBell();
        p21fromWhichOn();
        p21none();
        p22last();
        p22none();
        p23minutes();
        p23notOutAhead();
        p23noGreen();
        p26fromZeroToBell();
        p26none();
        p26sides();
        p27most();
        p27noGreen();
        p28most();
        p28noGreen();
        p29fromOneToSixty();
        p29none();
        p29sides();
        Check.finish("EdgeMatchTest");
    }

    private static void due(String what, long got, long want) {
        Check.due(what, got, want);
    }

    private static SilenceMatch one(int bell, int laugh, String lines) {
        return Texts.made(Texts.head(1, 1, bell, laugh, 1) + EAR + lines);
    }

    /** PLAYERS 0 .. 7 in a row of FRIENDS: OUT in 4, 5, .., 11, all but the first by LAUGHTER. */
    private static SilenceMatch chained(int bell) {
        StringBuilder lines = new StringBuilder(LOUD4 + MUTE.repeat(7));
        for (int p = 0; p < 7; p++) {
            lines.append(Texts.friends(p, p + 1));
        }
        return one(bell, 1, lines.toString());
    }

    /** III: "minutes 1 .. bell" */
    private static void termIIIminutes() {
        due("a cough in the minute behind the bell", one(3, 0, LOUD4).out(0), -1);
        due("a cough in the bell's minute", one(4, 0, LOUD4).out(0), 4);
        due("none in minute 0", one(4, 0, LOUD4).score(0, 0), 1);
        due("the last minute that there is", one(60, 0, Texts.player(0, 0, 1, 30) + Texts.wind(30, 59)).out(0), 60);
        due("no minute", one(60, 0, Texts.player(0, 0, 1, 30) + Texts.wind(30, 60)).out(0), -1);
        due("29", one(29, 0, Texts.player(0, 0, 1, 30)).out(0), -1);
        due("30", one(30, 0, Texts.player(0, 0, 1, 30)).out(0), 30);
        SilenceMatch x = chained(10);
        due("laughter in the bell's minute", x.out(6), 10);
        due("laughter behind the bell", x.out(7), -1);
    }

    /** III: "in each minute that is a multiple of his every" */
    private static void termIIImultiples() {
        for (int every : new int[] {4, 5, 29, 30}) {
            SilenceMatch x = one(60, 0, Texts.player(0, 0, 0, every));
            for (int minute = 1; minute <= 60; minute++) {
                due("every " + every + " in " + minute, x.coughs(minute), minute % every == 0 ? 1 : 0);
            }
        }
    }

    /** III: "if one of his FRIENDS was OUT in the minute ahead" */
    private static void termIIIlaughsInTheMinuteBehind() {
        SilenceMatch x = one(60, 0, LOUD4 + MUTE + MUTE + Texts.friends(1, 0));
        due("not in the same one", x.laughs(4), 0);
        due("in the next one", x.laughs(5), 2);
        due("not in the one behind it", x.laughs(6), 0);
        due("not at another one's cough", x.laughs(9), 0);
        SilenceMatch y = one(60, 0, LOUD4 + LOUD4 + MUTE + Texts.friends(2, 0) + Texts.friends(1, 2));
        due("two FRIENDS OUT at once", y.laughs(5), 4);
        due("not in the one behind it", y.laughs(6), 0);
    }

    /** III: "he LAUGHS (laugh)": the loudness of LAUGHTER, just heard and just not */
    private static void termIIIlaughsLoudEnough() {
        for (int laugh = 0; laugh <= 12; laugh++) {
            SilenceMatch x = Texts.made(Texts.head(5, 1, 9, laugh, 1) + Texts.umpire(0, 8) + Texts.player(0, 0, 8, 4)
                    + Texts.player(0, 4, 0, 30) + Texts.friends(0, 1));
            due("laugh " + laugh + " of 12 needed", x.out(1), laugh == 12 ? 5 : -1);
            due("he LAUGHS", x.laughs(5), 2);
        }
        due("0 is never heard", one(9, 0, LOUD4 + MUTE + Texts.friends(0, 1)).out(1), -1);
        due("1 is", one(9, 1, LOUD4 + MUTE + Texts.friends(0, 1)).out(1), 5);
    }

    /** III: "whoever is not OUT" */
    private static void termIIIwhoeverIsNotOut() {
        SilenceMatch x = one(20, 1, LOUD4 + LOUD4.replace("every 4", "every 5") + Texts.friends(0, 1));
        due("OUT once", x.outs(4), 1);
        due("coughs and laughs in 5", x.outs(5), 2);
        due("the first does not laugh back", x.laughs(6), 0);
        due("nor cough to be OUT again", x.outs(8), 0);
        due("still OUT in 4", x.out(0), 4);
    }

    /** III: "coughs or LAUGHS, so that some UMPIRE HEARS it (either)" */
    private static void termIIIeither() {
        // UMPIRE 0 HEARS 3 and more, UMPIRE 1 HEARS 2 and more; PLAYER 1 coughs 2 and laughs 3 in minute 5.
        String ears = Texts.umpire(0, 3) + Texts.umpire(0, 2);
        String head = Texts.head(1, 1, 9, 3, 1) + ears + Texts.player(0, 0, 3, 4);
        SilenceMatch both = Texts.made(head + Texts.player(0, 0, 2, 5) + Texts.friends(0, 1));
        due("both in one minute", both.out(1), 5);
        due("the first UMPIRE HEARS the laughter", both.finger(1), 0);
        SilenceMatch cough = Texts.made(head + Texts.player(0, 0, 2, 5));
        due("the cough alone", cough.out(1), 5);
        due("the second UMPIRE HEARS it", cough.finger(1), 1);
        SilenceMatch laughter = Texts.made(head + Texts.player(0, 0, 1, 5) + Texts.friends(0, 1));
        due("the laughter alone", laughter.out(1), 5);
        // The other way round: the cough is heard by UMPIRE 0 too, the laughter by UMPIRE 1 alone.
        SilenceMatch turned = Texts.made(head.replace("laugh 3", "laugh 2") + Texts.player(0, 0, 3, 5) + Texts.friends(0, 1));
        due("the first UMPIRE HEARS the cough", turned.finger(1), 0);
        SilenceMatch later = Texts.made(head.replace("laugh 3", "laugh 2") + Texts.player(0, 0, 3, 6) + Texts.friends(0, 1));
        due("he does not cough in that minute", later.out(1), 5);
        due("the second UMPIRE HEARS the laughter", later.finger(1), 1);
        SilenceMatch neither = Texts.made(head + Texts.player(0, 0, 1, 5));
        due("neither", neither.out(1), -1);
    }

    /** III: "all of one minute at once" */
    private static void termIIIallAtOnce() {
        SilenceMatch x = one(9, 1, LOUD4.repeat(8) + Texts.friends(0, 1) + Texts.friends(6, 7));
        due("all", x.outs(4), 255);
        due("nobody is left to laugh", x.laughs(5), 0);
        SilenceMatch y = one(9, 1, MUTE + LOUD4 + Texts.friends(0, 1));
        due("nobody laughs at once", y.outs(4), 2);
        due("but in the next minute", y.outs(5), 1);
    }

    /** IV: "Who has the greater SCORE at the bell wins." */
    private static void termIVscores() {
        due("alike", one(3, 0, LOUD4 + Texts.player(1, 0, 0, 4)).wins(), -1);
        due("one more", one(4, 0, LOUD4 + Texts.player(1, 0, 0, 4)).wins(), 1);
        due("one more", one(3, 0, LOUD4 + LOUD4 + Texts.player(1, 0, 0, 4)).wins(), 0);
        due("OUT in the bell's minute", one(4, 0, LOUD4 + LOUD4 + Texts.player(1, 0, 0, 4)).wins(), 1);
    }

    /** 14: "The minute in which a PLAYER is OUT (III)" */
    private static void p14players() {
        SilenceMatch x = Texts.made(Texts.FULL);
        Edge.of("PLAYER", n -> x.out(n), 0, 4, 7, 5, -2);
        SilenceMatch y = Texts.made(Texts.BASE);
        Edge.of("PLAYER of four", n -> y.out(n), 0, 8, 3, 10, -2);
    }

    /** 14: "NONE: he is not" */
    private static void p14none() {
        SilenceMatch x = Texts.made(Texts.TINY + LOUD4.repeat(8));
        Edge.of("no UMPIRES", n -> x.out(n), 0, -1, 7, -1, -2);
    }

    /** 14: "-2: there is none such" */
    private static void p14noneSuch() {
        SilenceMatch x = new SilenceMatch();
        Edge.of("no GREEN", n -> x.out(n), 0, -2, 7, -2, -2);
        SilenceMatch y = Texts.made(Texts.TINY);
        Edge.of("nobody", n -> y.out(n), 0, -2, 7, -2, -2);
    }

    /** 15: "in a minute (1 .. bell)" */
    private static void p15minutes() {
        SilenceMatch x = Texts.made(Texts.FULL);
        Edge.of("minute", n -> x.outs(n), 1, 0, 60, 0, -2);
        x.bell(4);
        Edge.of("bell 4", n -> x.outs(n), 1, 0, 4, 1, -2);
        x.bell(1);
        Edge.of("bell 1", n -> x.outs(n), 1, 0, 1, 0, -2);
    }

    /** 15: "PLAYERS who are OUT in a minute .. as bits": in it, neither ahead of it nor behind it */
    private static void p15bits() {
        SilenceMatch x = Texts.made(Texts.FULL);
        int[] wants = {0, 1, 146, 108, 0};
        for (int minute = 3; minute <= 7; minute++) {
            due("outs " + minute, x.outs(minute), wants[minute - 3]);
        }
    }

    /** 15: "-2: there is none such, no GREEN" */
    private static void p15noGreen() {
        SilenceMatch x = new SilenceMatch();
        Edge.of("no GREEN", n -> x.outs(n), 1, -2, 60, -2, -2);
    }

    /** 16: "in a minute", "-2 likewise" */
    private static void p16minutes() {
        SilenceMatch x = Texts.made(Texts.FULL);
        Edge.of("minute", n -> x.laughs(n), 1, 0, 60, 0, -2);
        x.bell(5);
        Edge.of("bell 5", n -> x.laughs(n), 1, 0, 5, 146, -2);
        x.bell(1);
        Edge.of("bell 1", n -> x.laughs(n), 1, 0, 1, 0, -2);
        SilenceMatch y = new SilenceMatch();
        Edge.of("no GREEN", n -> y.laughs(n), 1, -2, 60, -2, -2);
    }

    /** 16: "PLAYERS who LAUGH in a minute (heard or not" */
    private static void p16heardOrNot() {
        SilenceMatch x = one(60, 1, LOUD4 + MUTE + MUTE + Texts.friends(0, 1) + Texts.friends(1, 2) + Texts.wind(5, 5));
        due("in a WIND", x.laughs(5), 2);
        due("not heard", x.outs(5), 0);
        due("so nobody laughs at him", x.laughs(6), 0);
        SilenceMatch y = Texts.made(Texts.FULL);
        due("heard", y.laughs(5), 146);
        due("heard", y.laughs(6), 108);
    }

    /** 16: "OUT ones do not)" */
    private static void p16outOnesDoNot() {
        SilenceMatch x = one(60, 1, LOUD4 + MUTE + Texts.friends(0, 1));
        due("he laughs", x.laughs(5), 2);
        due("the one at whom he laughed is OUT", x.laughs(6), 0);
        SilenceMatch y = Texts.made(Texts.FULL);
        due("all are OUT", y.laughs(7), 0);
    }

    /** 17: "The UMPIRE who HEARS a PLAYER in the minute in which he is OUT" */
    private static void p17players() {
        SilenceMatch x = Texts.made(Texts.FULL);
        Edge.of("PLAYER", n -> x.finger(n), 0, 0, 7, 0, -2);
        SilenceMatch y = new SilenceMatch();
        Edge.of("no GREEN", n -> y.finger(n), 0, -2, 7, -2, -2);
    }

    /** 17: "the first of several" */
    private static void p17firstOfSeveral() {
        String head = Texts.head(5, 1, 9, 0, 1) + Texts.player(0, 2, 3, 4);
        due("the last of four alone", Texts.made(head + Texts.umpire(2, 4) + Texts.umpire(2, 9) + Texts.umpire(4, 2)
                + Texts.umpire(4, 1)).finger(0), 3);
        due("two of four", Texts.made(head + Texts.umpire(2, 4) + Texts.umpire(2, 3) + Texts.umpire(4, 2)
                + Texts.umpire(2, 0)).finger(0), 1);
        due("all four", Texts.made(head + Texts.umpire(2, 0).repeat(4)).finger(0), 0);
    }

    /** 17: "NONE: he is not OUT; -2: there is none such" */
    private static void p17notOut() {
        SilenceMatch x = one(3, 0, LOUD4);
        Edge.of("not OUT", n -> x.finger(n), 0, -1, 0, -1, -2);
        SilenceMatch y = Texts.made(Texts.TINY);
        Edge.of("nobody", n -> y.finger(n), 0, -2, 7, -2, -2);
    }

    /** 18: "-2: there is none such" */
    private static void p18umpires() {
        SilenceMatch x = Texts.made(Texts.FULL);
        Edge.of("UMPIRE", n -> x.fingers(n), 0, 8, 3, 0, -2);
        SilenceMatch y = Texts.made(Texts.BASE);
        Edge.of("UMPIRE of two", n -> y.fingers(n), 0, 3, 1, 1, -2);
        SilenceMatch z = new SilenceMatch();
        Edge.of("no GREEN", n -> z.fingers(n), 0, -2, 3, -2, -2);
        SilenceMatch w = Texts.made(Texts.TINY);
        Edge.of("nobody", n -> w.fingers(n), 0, -2, 3, -2, -2);
    }

    /** 18: "How many of those OUT an UMPIRE HEARS first so", from none to all */
    private static void p18howMany() {
        SilenceMatch x = Texts.made(Texts.head(1, 1, 9, 0, 1) + Texts.umpire(0, 2) + EAR.repeat(3) + LOUD4.repeat(8));
        due("deaf", x.fingers(0), 0);
        due("first", x.fingers(1), 8);
        due("second", x.fingers(2), 0);
        due("last", x.fingers(3), 0);
        SilenceMatch y = one(3, 0, LOUD4);
        due("nobody is OUT", y.fingers(0), 0);
    }

    /** 19: "of a SIDE" */
    private static void p19sides() {
        SilenceMatch x = Texts.made(Texts.FULL);
        Edge.of("SIDE", n -> x.score(n, 4), 0, 3, 1, 4, -2);
        SilenceMatch y = Texts.made(Texts.TINY + MUTE.repeat(8));
        Edge.of("all on one SIDE", n -> y.score(n, 0), 0, 8, 1, 0, -2);
    }

    /** 19: "at the end of a minute (0 .. bell)" */
    private static void p19minutes() {
        SilenceMatch x = Texts.made(Texts.FULL);
        Edge.of("minute", n -> x.score(0, n), 0, 4, 60, 0, -2);
        int[] wants = {4, 3, 2, 0};
        for (int minute = 3; minute <= 6; minute++) {
            due("SCORE " + minute, x.score(0, minute), wants[minute - 3]);
        }
        x.bell(4);
        Edge.of("bell 4", n -> x.score(0, n), 0, 4, 4, 3, -2);
        x.bell(1);
        Edge.of("bell 1", n -> x.score(1, n), 0, 4, 1, 4, -2);
    }

    /** 19: "-2: there are none such, no GREEN" */
    private static void p19noGreen() {
        SilenceMatch x = new SilenceMatch();
        Edge.of("no GREEN", n -> x.score(0, n), 0, -2, 60, -2, -2);
        due("neither such", Texts.made(Texts.FULL).score(2, 61), -2);
    }

    /** 20: "The SIDE that wins." */
    private static void p20sides() {
        due("0", Texts.made(Texts.TINY + MUTE.repeat(8)).wins(), 0);
        due("1", Texts.made(Texts.TINY + Texts.player(1, 0, 0, 4).repeat(8)).wins(), 1);
        SilenceMatch x = Texts.made(Texts.FULL);
        x.bell(3);
        due("ahead of it", x.wins(), -1);
        x.bell(4);
        due("in the bell's minute", x.wins(), 1);
        x.bell(5);
        due("behind it", x.wins(), -1);
    }

    /** 20: "NONE: neither" */
    private static void p20neither() {
        due("nobody plays", Texts.made(Texts.TINY).wins(), -1);
        due("all are OUT", Texts.made(Texts.FULL).wins(), -1);
    }

    /** 20: "-2: there is no GREEN" */
    private static void p20noGreen() {
        due("no GREEN", new SilenceMatch().wins(), -2);
    }

    /** 21: "The first minute (0 .. bell)" */
    private static void p21fromZeroToBell() {
        due("0", Texts.made(Texts.TINY + MUTE).leads(), 0);
        due("0 of 60", one(60, 0, MUTE).leads(), 0);
        String even = LOUD4 + Texts.player(1, 0, 0, 4);
        due("the bell's", one(4, 0, even).leads(), 4);
        due("of 60 the fourth", one(60, 0, even).leads(), 4);
        due("60", one(60, 0, Texts.player(0, 0, 1, 30) + Texts.wind(30, 59) + Texts.player(1, 0, 0, 4)).leads(), 60);
    }

    /** 21: "from which on the SIDE that wins has more at the end of each minute" */
    private static void p21fromWhichOn() {
        // 3 : 2, from minute 4 on 2 : 2, from minute 5 on 2 : 1.
        SilenceMatch x = one(9, 0, LOUD4 + MUTE + MUTE + Texts.player(1, 0, 1, 5) + Texts.player(1, 0, 0, 30));
        due("lost and won again", x.leads(), 5);
        x.bell(4);
        due("neither", x.leads(), -1);
        x.bell(3);
        due("not lost yet", x.leads(), 0);
    }

    /** 21: "NONE: neither wins; -2 likewise" */
    private static void p21none() {
        due("nobody", Texts.made(Texts.TINY).leads(), -1);
        due("neither", Texts.made(Texts.FULL).leads(), -1);
        due("no GREEN", new SilenceMatch().leads(), -2);
    }

    /** 22: "The last minute in which somebody is OUT." */
    private static void p22last() {
        due("the bell's", one(4, 0, LOUD4).last(), 4);
        due("long ahead of it", one(60, 0, LOUD4).last(), 4);
        due("60", one(60, 0, LOUD4 + Texts.player(0, 0, 1, 30) + Texts.wind(30, 59)).last(), 60);
    }

    /** 22: "NONE: none; -2 likewise" */
    private static void p22none() {
        due("none", one(3, 0, LOUD4).last(), -1);
        due("nobody", Texts.made(Texts.TINY).last(), -1);
        due("no GREEN", new SilenceMatch().last(), -2);
    }

    /** 23: "in a minute (1 .. bell)" */
    private static void p23minutes() {
        SilenceMatch x = Texts.made(Texts.head(1, 1, 60, 0, 0) + LOUD4.repeat(8));
        Edge.of("minute", n -> x.tries(n), 1, 0, 60, 255, -2);
        x.bell(4);
        Edge.of("bell 4", n -> x.tries(n), 1, 0, 4, 255, -2);
        x.bell(1);
        Edge.of("bell 1", n -> x.tries(n), 1, 0, 1, 0, -2);
    }

    /** 23: "and were not OUT ahead of it" */
    private static void p23notOutAhead() {
        SilenceMatch x = Texts.made(Texts.FULL);
        due("in which he is OUT", x.tries(4), 1);
        due("OUT ahead of it", x.tries(8), 0);
        due("all OUT", x.tries(60), 0);
        SilenceMatch y = one(60, 0, LOUD4 + Texts.player(1, 0, 0, 4));
        due("one of two", y.tries(8), 2);
    }

    /** 23: "-2: there is none such, no GREEN" */
    private static void p23noGreen() {
        SilenceMatch x = new SilenceMatch();
        Edge.of("no GREEN", n -> x.tries(n), 1, -2, 60, -2, -2);
    }

    /** 26: "The first minute (0 .. bell) at the end of which a SIDE's SCORE is 0" */
    private static void p26fromZeroToBell() {
        SilenceMatch x = one(4, 0, LOUD4);
        due("the bell's", x.gone(0), 4);
        due("0, as nobody plays", x.gone(1), 0);
        due("60", one(60, 0, Texts.player(1, 0, 1, 30) + Texts.wind(30, 59)).gone(1), 60);
        due("the last of several", Texts.made(Texts.FULL).gone(0), 6);
    }

    /** 26: "NONE: none" */
    private static void p26none() {
        due("behind the bell", one(3, 0, LOUD4).gone(0), -1);
        due("one is left", one(60, 0, LOUD4 + MUTE).gone(0), -1);
    }

    /** 26: "-2: there is no such SIDE, no GREEN" */
    private static void p26sides() {
        SilenceMatch x = Texts.made(Texts.BASE);
        Edge.of("SIDE", n -> x.gone(n), 0, 9, 1, 10, -2);
        SilenceMatch y = new SilenceMatch();
        Edge.of("no GREEN", n -> y.gone(n), 0, -2, 1, -2, -2);
    }

    /** 27: "The most minutes one behind the other in which nobody is OUT." */
    private static void p27most() {
        due("one minute", Texts.made(Texts.TINY).calm(), 1);
        due("all sixty", one(60, 0, MUTE).calm(), 60);
        due("ahead of the first", one(4, 0, LOUD4).calm(), 3);
        due("behind the last", one(8, 0, LOUD4).calm(), 4);
        due("as many behind it", one(7, 0, LOUD4).calm(), 3);
        due("between two", one(10, 0, LOUD4 + Texts.player(0, 0, 1, 9)).calm(), 4);
        due("all laughing one behind the other", chained(11).calm(), 3);
    }

    /** 27: "-2: there is no GREEN" */
    private static void p27noGreen() {
        due("no GREEN", new SilenceMatch().calm(), -2);
    }

    /** 28: "The most minutes one behind the other in each of which somebody LAUGHS." */
    private static void p28most() {
        due("none", Texts.made(Texts.TINY).chain(), 0);
        due("seven", chained(60).chain(), 7);
        due("to the bell", chained(8).chain(), 4);
        due("the first", chained(5).chain(), 1);
        due("none as yet", chained(4).chain(), 0);
        due("not heard", one(60, 0, LOUD4 + MUTE + Texts.friends(0, 1)).chain(), 1);
        due("not one behind the other", one(60, 1, LOUD4 + MUTE + Texts.player(0, 0, 1, 7) + MUTE + Texts.friends(0, 1)
                + Texts.friends(2, 3)).chain(), 1);
    }

    /** 28: "-2 likewise" */
    private static void p28noGreen() {
        due("no GREEN", new SilenceMatch().chain(), -2);
    }

    /** 29: "The first minute (1 .. 60) by which a SIDE would win, if it were the bell." */
    private static void p29fromOneToSixty() {
        due("1, not 0", Texts.made(Texts.TINY + MUTE).bells(0), 1);
        SilenceMatch x = Texts.made(Texts.TINY + EAR + Texts.player(0, 0, 1, 30) + Texts.wind(30, 59) + Texts.player(1, 0, 0, 4));
        due("60, far behind the bell", x.bells(1), 60);
        due("one minute long", Texts.made(Texts.FULL).bells(1), 4);
    }

    /** 29: "NONE: none" */
    private static void p29none() {
        due("never", Texts.made(Texts.FULL).bells(0), -1);
        due("nobody", Texts.made(Texts.TINY).bells(1), -1);
        SilenceMatch x = Texts.made(Texts.TINY + EAR + Texts.player(0, 0, 1, 30) + Texts.wind(30, 60) + Texts.player(1, 0, 0, 4));
        due("61 would be needed", x.bells(1), -1);
    }

    /** 29: "-2: there is no such SIDE, no GREEN" */
    private static void p29sides() {
        SilenceMatch x = Texts.made(Texts.BASE);
        Edge.of("SIDE", n -> x.bells(n), 0, 6, 1, 9, -2);
        SilenceMatch y = new SilenceMatch();
        Edge.of("no GREEN", n -> y.bells(n), 0, -2, 1, -2, -2);
    }
}
