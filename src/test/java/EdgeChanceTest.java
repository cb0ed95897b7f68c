/** Edges of Terms VI, VII and VIII and of promises 51 to 57, 62 and 63; one method for a sentence. */
final class EdgeChanceTest {
    private static final String EAR = Texts.umpire(0, 0);
    private static final String LOUD4 = Texts.player(0, 0, 1, 4);
    private static final String MUTE = Texts.player(0, 0, 0, 30);
    private static final String OTHER = Texts.player(1, 0, 0, 30);
    private static final int MIN = Integer.MIN_VALUE;
    private static final int LAST_SEED = 2000000000;

    private EdgeChanceTest() {
    }

    public static void main(String[] args) {
        termVInoSoundNorCounted();
        termVIIoddsInTen();
        termVIIlaughterAside();
        termVIIIdraws();
        termVIIIdrawBelowOdds();
        termVIIIwhoDraws();
        termVIIIlaughterAlways();
        termVIIIlowestTerms();
        p51fewest();
        p51noGreen();
        p52leastSet();
        p52likewise();
        p53sets();
        p53sides();
        p53noGreen();
        p54greatest();
        p54greaterThanNow();
        p54sides();
        p55players();
        p55what();
        p55leastAndMost();
        p56greatest();
        p56none();
        p56sides();
        p57inAHundred();
        p57lastMinute();
        p57noneSuch();
        p62seeds();
        p62what();
        p62leastAndMost();
        p62noGreen();
        p63howMany();
        p63seeds();
        p63players();
        Check.finish("EdgeChanceTest");
    }

    private static void due(String what, long got, long want) {
        Check.due(what, got, want);
    }

    private static SilenceMatch one(int bell, int laugh, int odds, String lines) {
        return Texts.made(Texts.head(1, 1, bell, laugh, odds) + EAR + lines);
    }

    /** VI: "they make no sound, nor are they counted" */
    private static void termVInoSoundNorCounted() {
        SilenceMatch x = one(9, 1, 1, LOUD4 + MUTE + Texts.friends(0, 1));
        due("none at REST", x.without(0, 0), 0);
        due("who coughs rests: nobody laughs", x.without(1, 0), 1);
        due("who laughs rests", x.without(2, 0), 0);
        due("both rest", x.without(3, 0), 0);
    }

    /** VII: "each cough comes with odds in ten, by itself" */
    private static void termVIIoddsInTen() {
        int[] above = {1, 9, 4, 7, 3, 1, 2, 3, 1, 1, 0};
        int[] below = {1, 10, 5, 10, 5, 2, 5, 10, 5, 10, 1};
        for (int odds = 0; odds <= 10; odds++) {
            SilenceMatch x = one(4, 0, odds, LOUD4);
            due("odds " + odds + " above", x.chance(0, 0), above[odds]);
            due("odds " + odds + " below", x.chance(0, 1), below[odds]);
            SilenceMatch y = one(8, 0, odds, LOUD4);
            due("two coughs above", y.chance(0, 0), (long) above[odds] * above[odds]);
            due("two coughs below", y.chance(0, 1), (long) below[odds] * below[odds]);
        }
    }

    /** VII: "LAUGHTER aside" */
    private static void termVIIlaughterAside() {
        SilenceMatch x = one(9, 12, 10, LOUD4 + MUTE + Texts.friends(0, 1));
        due("he laughs, and is OUT", x.out(1), 5);
        due("but does not cough aloud", x.chance(1, 0), 1);
        due("but does not cough aloud", x.chance(1, 1), 1);
    }

    /** VIII: "x becomes (1103515245 x + 12345) modulo 2,147,483,648 .. x / 65536, cut, modulo 10" */
    private static void termVIIIdraws() {
        // From seed 0: 0 8 8 7 8 7 5 1 2 0. One PLAYER of every 4 draws in 4, 8, ..; he is OUT by the first below odds.
        SilenceMatch x = one(40, 0, 1, Texts.player(0, 0, 1, 4));
        due("0 is below 1", x.drawn(0, 2), 1);
        SilenceMatch mute = one(40, 0, 1, Texts.player(0, 0, 0, 4));
        due("all ten are drawn", mute.drawn(0, 2), 10);
        int[] draws = {0, 8, 8, 7, 8, 7, 5, 1, 2, 0};
        // The first k draws go to PLAYERS who are not heard, the next one decides.
        for (int k = 0; k < 7; k++) {
            String ahead = Texts.player(1, 0, 0, 4).repeat(k);
            for (int odds = 0; odds <= 10; odds++) {
                SilenceMatch y = one(4, 0, odds, ahead + LOUD4);
                due("draw " + k + " by odds " + odds, y.drawn(0, 0), draws[k] < odds ? 1 << k : 0);
            }
        }
    }

    /** VIII: "below odds he coughs" */
    private static void termVIIIdrawBelowOdds() {
        // The second draw from seed 0 is 8.
        String lines = Texts.player(1, 0, 0, 4) + LOUD4;
        due("8 is not below 8", one(4, 0, 8, lines).drawn(0, 0), 0);
        due("8 is below 9", one(4, 0, 9, lines).drawn(0, 0), 2);
        due("0 is not below 0", one(4, 0, 0, LOUD4).drawn(0, 0), 0);
        due("0 is below 1", one(4, 0, 1, LOUD4).drawn(0, 0), 1);
        SilenceMatch x = one(60, 0, 0, LOUD4.repeat(8));
        SilenceMatch y = one(60, 0, 10, LOUD4.repeat(8));
        for (int seed = 0; seed < 20; seed++) {
            due("none below 0", x.drawn(seed, 0), 0);
            due("all below 10", y.drawn(seed, 0), 255);
        }
    }

    /** VIII: "minute by minute, PLAYER by PLAYER who is not OUT and has a cough then, a draw" */
    private static void termVIIIwhoDraws() {
        due("no cough", one(3, 0, 10, LOUD4.repeat(8)).drawn(5, 2), 0);
        due("all in one minute", one(4, 0, 10, LOUD4.repeat(8)).drawn(5, 2), 8);
        due("OUT ones draw no more", one(60, 0, 10, LOUD4.repeat(8)).drawn(5, 2), 8);
        due("who is not heard draws on", one(60, 0, 10, Texts.player(0, 0, 0, 4).repeat(8)).drawn(5, 2), 120);
        due("in a WIND too", one(60, 0, 10, LOUD4.repeat(8) + Texts.wind(1, 60)).drawn(5, 2), 120);
        due("OUT by laughter in 5, no cough in 8", one(8, 1, 10, LOUD4 + Texts.player(0, 0, 0, 8) + Texts.friends(0, 1))
                .drawn(5, 2), 1);
        due("OUT in the minute itself", one(8, 1, 10, LOUD4 + Texts.player(0, 0, 0, 5) + Texts.friends(0, 1))
                .drawn(5, 2), 2);
    }

    /** VIII: "LAUGHTER comes always" */
    private static void termVIIIlaughterAlways() {
        // From seed 0 the first draw is 0: he coughs by odds 1, and his FRIENDS laugh without a draw.
        SilenceMatch x = one(5, 1, 1, LOUD4 + MUTE.repeat(2) + Texts.friends(0, 1) + Texts.friends(0, 2));
        due("all are OUT", x.drawn(0, 0), 7);
        due("one draw", x.drawn(0, 2), 1);
    }

    /** VIII: "FRACTIONS are told in lowest terms (0 / 1)" */
    private static void termVIIIlowestTerms() {
        SilenceMatch zero = one(60, 0, 10, LOUD4);
        due("0", zero.chance(0, 0), 0);
        due("1", zero.chance(0, 1), 1);
        SilenceMatch whole = one(3, 0, 10, LOUD4);
        due("1", whole.chance(0, 0), 1);
        due("1", whole.chance(0, 1), 1);
        SilenceMatch never = one(60, 0, 0, LOUD4);
        due("1", never.chance(0, 0), 1);
        due("1", never.chance(0, 1), 1);
        SilenceMatch fifth = one(60, 0, 8, LOUD4);
        due("1", fifth.chance(0, 0), 1);
        due("5 to the 15th", fifth.chance(0, 1), 30517578125L);
        SilenceMatch four = one(60, 0, 2, LOUD4);
        due("4 to the 15th", four.chance(0, 0), 1073741824L);
        due("5 to the 15th", four.chance(0, 1), 30517578125L);
    }

    /** 51: "the fewest PLAYERS to REST (VI) so that both SCORES at the bell are alike", from none to all */
    private static void p51fewest() {
        due("nobody plays", Texts.made(Texts.TINY).even(), 0);
        due("alike", one(9, 0, 1, MUTE + OTHER).even(), 0);
        due("all are OUT", Texts.made(Texts.FULL).even(), 0);
        due("all eight", one(9, 0, 1, MUTE.repeat(8)).even(), 8);
        due("six", one(9, 0, 1, MUTE.repeat(7) + OTHER).even(), 6);
        due("both of the others, or one of each", one(9, 1, 1, LOUD4 + MUTE + OTHER + OTHER + Texts.friends(0, 1)).even(), 2);
        due("one whose cough is laughed at", one(9, 1, 1, LOUD4 + MUTE + OTHER + Texts.friends(0, 1)).even(), 1);
    }

    /** 51: "-2: there is no GREEN" */
    private static void p51noGreen() {
        due("no GREEN", new SilenceMatch().even(), -2);
    }

    /** 52: "Which, as bits: the least set of so few." */
    private static void p52leastSet() {
        due("none", one(9, 0, 1, MUTE + OTHER).evens(), 0);
        due("all eight", one(9, 0, 1, MUTE.repeat(8)).evens(), 255);
        due("the first six of seven", one(9, 0, 1, MUTE.repeat(7) + OTHER).evens(), 63);
        due("the first of four", one(9, 0, 1, OTHER.repeat(3) + MUTE.repeat(3) + LOUD4 + OTHER).evens(), 1);
        due("the eighth alone", one(9, 0, 1, LOUD4.repeat(7) + MUTE).evens(), 128);
    }

    /** 52: "-2 likewise" */
    private static void p52likewise() {
        due("no GREEN", new SilenceMatch().evens(), -2);
        due("nobody plays", Texts.made(Texts.TINY).evens(), 0);
    }

    /** 53: "a set of PLAYERS (bits)" */
    private static void p53sets() {
        SilenceMatch x = one(9, 0, 1, MUTE.repeat(8));
        due("none at REST", x.without(0, 0), 8);
        due("the last one", x.without(128, 0), 7);
        due("all", x.without(255, 0), 0);
        for (int set : new int[] {256, 257, 511, 512, 65536, -1, -256, MIN, MIN + 1, Integer.MAX_VALUE}) {
            due("no such set " + set, x.without(set, 0), -2);
        }
        SilenceMatch y = one(9, 0, 1, MUTE.repeat(3));
        Edge.of("of three", n -> y.without(n, 0), 0, 3, 7, 0, -2);
        SilenceMatch z = Texts.made(Texts.TINY);
        Edge.of("of nobody", n -> z.without(n, 0), 0, 0, 0, 0, -2);
        due("nothing is done", x.score(0, 9), 8);
    }

    /** 53: "SCORE of a SIDE" */
    private static void p53sides() {
        SilenceMatch x = one(9, 0, 1, MUTE.repeat(7) + OTHER);
        Edge.of("SIDE", n -> x.without(1, n), 0, 6, 1, 1, -2);
        due("neither such", x.without(256, 2), -2);
    }

    /** 53: "-2: there are none such, no GREEN" */
    private static void p53noGreen() {
        SilenceMatch x = new SilenceMatch();
        Edge.of("no GREEN", n -> x.without(n, 0), 0, -2, 255, -2, -2);
    }

    /** 54: "The PLAYER without whom (at REST) his SIDE's SCORE at the bell is greatest, .. the first of several" */
    private static void p54greatest() {
        // 0 OUT makes 1 laugh; 2 OUT makes 3 and 4 laugh.
        String lines = LOUD4 + MUTE + LOUD4 + MUTE + MUTE + Texts.friends(0, 1) + Texts.friends(2, 3);
        due("alike", one(9, 1, 1, lines).drop(0), 0);
        due("two more", one(9, 1, 1, lines + Texts.friends(2, 4)).drop(0), 2);
        due("the last of eight", one(9, 1, 1, MUTE.repeat(7) + LOUD4 + Texts.friends(7, 6)).drop(0), 7);
    }

    /** 54: "if greater than now", "NONE: none" */
    private static void p54greaterThanNow() {
        due("OUT, but nobody laughs", one(9, 1, 1, LOUD4 + MUTE).drop(0), -1);
        due("never OUT", one(9, 1, 1, MUTE + MUTE).drop(0), -1);
        due("nobody", Texts.made(Texts.TINY).drop(0), -1);
        due("the others laugh", one(9, 1, 1, LOUD4 + OTHER + Texts.friends(0, 1)).drop(0), -1);
        due("of his own SIDE alone", one(9, 1, 1, LOUD4 + OTHER + Texts.friends(0, 1)).drop(1), -1);
    }

    /** 54: "-2: there is no such SIDE, no GREEN" */
    private static void p54sides() {
        SilenceMatch x = one(9, 1, 1, LOUD4 + MUTE + Texts.player(1, 0, 1, 4) + OTHER + Texts.friends(0, 1)
                + Texts.friends(2, 3));
        Edge.of("SIDE", n -> x.drop(n), 0, 0, 1, 2, -2);
        SilenceMatch y = new SilenceMatch();
        Edge.of("no GREEN", n -> y.drop(n), 0, -2, 1, -2, -2);
    }

    /** 55: "that a PLAYER is not OUT", "-2: there are none such" */
    private static void p55players() {
        SilenceMatch x = one(4, 0, 3, LOUD4.repeat(8));
        Edge.of("PLAYER", n -> x.chance(n, 0), 0, 7, 7, 7, -2);
        SilenceMatch y = new SilenceMatch();
        Edge.of("no GREEN", n -> y.chance(n, 0), 0, -2, 7, -2, -2);
        SilenceMatch z = Texts.made(Texts.TINY);
        Edge.of("nobody", n -> z.chance(n, 1), 0, -2, 7, -2, -2);
    }

    /** 55: "above (what 0), below (1)" */
    private static void p55what() {
        SilenceMatch x = one(4, 0, 3, LOUD4);
        Edge.of("what", n -> x.chance(0, n), 0, 7, 1, 10, -2);
        due("neither such", x.chance(1, 2), -2);
    }

    /** 55: the least and the most: 15 coughs of 60 minutes, which an int can't hold */
    private static void p55leastAndMost() {
        SilenceMatch x = one(60, 0, 1, LOUD4);
        due("9 to the 15th", x.chance(0, 0), 205891132094649L);
        due("10 to the 15th", x.chance(0, 1), 1000000000000000L);
        SilenceMatch y = one(60, 0, 9, LOUD4);
        due("1", y.chance(0, 0), 1);
        due("10 to the 15th", y.chance(0, 1), 1000000000000000L);
        SilenceMatch z = one(60, 0, 9, LOUD4 + Texts.wind(1, 55));
        due("those in a WIND are not heard", z.chance(0, 1), 100);
        SilenceMatch w = one(60, 0, 9, LOUD4 + Texts.wind(5, 60));
        due("one in no WIND", w.chance(0, 1), 10);
        x.lozenge(0, 0);
        due("no sound", x.chance(0, 1), 1);
        x.undo();
        x.bell(56);
        due("one cough less", x.chance(0, 1), 100000000000000L);
    }

    /** 56: "for whom that is greatest, the first of several" */
    private static void p56greatest() {
        String lines = Texts.player(0, 0, 1, 5) + Texts.player(0, 0, 1, 20) + Texts.player(0, 0, 1, 30) + Texts.player(0, 0, 1, 29);
        due("2 and 3 cough twice", one(60, 0, 5, lines).surest(0), 2);
        due("2 coughs once", one(59, 0, 5, lines).surest(0), 2);
        due("1, 2 and 3 cough once", one(30, 0, 5, lines).surest(0), 1);
        due("3 coughs once, 2 not at all", one(29, 0, 5, lines).surest(0), 2);
        due("1, 2 and 3 do not cough", one(19, 0, 5, lines).surest(0), 1);
        due("all 1", one(60, 0, 0, lines).surest(0), 0);
        due("all 0", one(60, 0, 10, lines).surest(0), 0);
        due("0 by three coughs and by one", one(30, 0, 10, Texts.player(0, 0, 1, 10) + Texts.player(0, 0, 1, 20)).surest(0), 0);
        due("0 and 1", one(29, 0, 10, lines).surest(0), 2);
        due("the last of eight", one(60, 0, 5, LOUD4.repeat(7) + Texts.player(0, 0, 0, 4)).surest(0), 7);
        due("1 against nearly 1", one(60, 0, 1, Texts.player(0, 0, 1, 30) + MUTE).surest(0), 1);
    }

    /** 56: "NONE: there is none" */
    private static void p56none() {
        due("nobody on that SIDE", one(60, 0, 5, LOUD4).surest(1), -1);
        due("nobody", Texts.made(Texts.TINY).surest(0), -1);
        due("surely OUT, but there", one(60, 0, 10, LOUD4).surest(0), 0);
    }

    /** 56: "-2: there is no such SIDE, no GREEN" */
    private static void p56sides() {
        SilenceMatch x = one(60, 0, 5, LOUD4 + OTHER);
        Edge.of("SIDE", n -> x.surest(n), 0, 0, 1, 1, -2);
        SilenceMatch y = new SilenceMatch();
        Edge.of("no GREEN", n -> y.surest(n), 0, -2, 1, -2, -2);
    }

    /** 57: "p (0 .. 100) in a hundred at least" */
    private static void p57inAHundred() {
        SilenceMatch x = one(60, 0, 5, LOUD4);
        Edge.of("p", n -> x.sure(0, n), 0, 60, 100, 3, -2);
        due("51", x.sure(0, 51), 3);
        due("50, just so", x.sure(0, 50), 7);
        due("26", x.sure(0, 26), 7);
        due("25, just so", x.sure(0, 25), 11);
        due("1: 1 in 64, not 1 in 128", x.sure(0, 1), 27);
        SilenceMatch y = one(60, 0, 1, LOUD4);
        due("100", y.sure(0, 100), 3);
        due("90, just so", y.sure(0, 90), 7);
        due("91", y.sure(0, 91), 3);
        due("81, just so", y.sure(0, 81), 11);
        due("82", y.sure(0, 82), 7);
        due("72, below 72.9", y.sure(0, 72), 15);
        due("73", y.sure(0, 73), 11);
        due("20: 9 to the 15th", y.sure(0, 20), 60);
        due("21", y.sure(0, 21), 59);
    }

    /** 57: "The last minute by which that (to that minute) is .. (0: ahead of the first)" */
    private static void p57lastMinute() {
        due("surely OUT in 4", one(60, 0, 10, LOUD4).sure(0, 1), 3);
        due("never so little", one(60, 0, 10, LOUD4).sure(0, 0), 60);
        due("never OUT", one(60, 0, 0, LOUD4).sure(0, 100), 60);
        due("the bell's", one(1, 0, 10, LOUD4).sure(0, 100), 1);
        due("ahead of the cough", one(3, 0, 10, LOUD4).sure(0, 100), 3);
        due("a cough in the bell's minute", one(4, 0, 10, LOUD4).sure(0, 100), 3);
        due("a WIND then", one(60, 0, 10, LOUD4 + Texts.wind(4, 7)).sure(0, 100), 7);
    }

    /** 57: "-2: there are none such" */
    private static void p57noneSuch() {
        SilenceMatch x = one(4, 0, 5, LOUD4.repeat(8));
        Edge.of("PLAYER", n -> x.sure(n, 50), 0, 4, 7, 4, -2);
        due("neither such", x.sure(8, 101), -2);
        SilenceMatch y = new SilenceMatch();
        Edge.of("no GREEN", n -> y.sure(n, 0), 0, -2, 7, -2, -2);
    }

    /** 62: "from a seed (0 .. 2,000,000,000)" */
    private static void p62seeds() {
        // From seed 2,000,000,000 x becomes 216544313, and 216544313 / 65536 is 3304: a draw of 4.
        SilenceMatch x = one(4, 0, 4, LOUD4);
        Edge.of("seed by odds 4", n -> x.drawn(n, 0), 0, 1, LAST_SEED, 0, -2);
        SilenceMatch y = one(4, 0, 5, LOUD4);
        Edge.of("seed by odds 5", n -> y.drawn(n, 0), 0, 1, LAST_SEED, 1, -2);
        Edge.of("draws", n -> y.drawn(n, 2), 0, 1, LAST_SEED, 1, -2);
    }

    /** 62: "what 0: PLAYERS who are OUT, as bits, 1: the SIDE that wins (NONE: neither), 2: how many draws" */
    private static void p62what() {
        SilenceMatch x = one(4, 0, 1, LOUD4 + OTHER + Texts.player(1, 0, 0, 4));
        Edge.of("what", n -> x.drawn(0, n), 0, 1, 2, 2, -2);
        due("the SIDE", x.drawn(0, 1), 1);
        due("neither such", x.drawn(-1, 3), -2);
        SilenceMatch y = one(4, 0, 1, LOUD4 + MUTE);
        due("the other SIDE", y.drawn(0, 1), 0);
        SilenceMatch z = one(4, 0, 1, LOUD4);
        due("neither", z.drawn(0, 1), -1);
    }

    /** 62: from nobody to all who are OUT, from no draw to the most */
    private static void p62leastAndMost() {
        SilenceMatch x = Texts.made(Texts.TINY);
        due("nobody", x.drawn(0, 0), 0);
        due("neither", x.drawn(0, 1), -1);
        due("no draw", x.drawn(0, 2), 0);
        SilenceMatch y = Texts.made(Texts.FULL);
        due("all, by odds 10", y.drawn(7, 0), 255);
        SilenceMatch z = one(60, 0, 10, Texts.player(0, 0, 0, 4).repeat(8));
        due("15 of each", z.drawn(7, 2), 120);
        due("all are left", z.drawn(7, 1), 0);
    }

    /** 62: "-2: there are none such, no GREEN" */
    private static void p62noGreen() {
        SilenceMatch x = new SilenceMatch();
        Edge.of("no GREEN", n -> x.drawn(n, 0), 0, -2, LAST_SEED, -2, -2);
        Edge.of("no GREEN", n -> x.drawn(0, n), 0, -2, 2, -2, -2);
    }

    /** 63: "Of n (1 .. 20) such" */
    private static void p63howMany() {
        SilenceMatch never = one(60, 0, 0, LOUD4);
        Edge.of("not OUT", n -> never.luck(0, n, 0), 1, 1, 20, 20, -2);
        SilenceMatch always = one(60, 0, 10, LOUD4);
        Edge.of("OUT", n -> always.luck(0, n, 0), 1, 0, 20, 0, -2);
    }

    /** 63: "from seeds, the seed and 1, .." */
    private static void p63seeds() {
        SilenceMatch x = one(8, 0, 4, LOUD4.repeat(3));
        for (int seed : new int[] {0, 1, 1999999981, LAST_SEED - 19}) {
            int count = 0;
            for (int i = 0; i < 20; i++) {
                count += (x.drawn(seed + i, 0) & 4) == 0 ? 1 : 0;
                due("luck from " + seed + " of " + (i + 1), x.luck(seed, i + 1, 2), count);
            }
        }
        // The first draw from the first seed is 0, from the last seed 4.
        SilenceMatch y = one(4, 0, 4, LOUD4);
        Edge.of("seed", n -> y.luck(n, 1, 0), 0, 0, LAST_SEED, 1, -2);
        Edge.refused("seed of twenty", n -> y.luck(n, 20, 0), 0, LAST_SEED, -2);
        SilenceMatch z = one(4, 0, 0, LOUD4);
        due("the last seed and nineteen behind it", z.luck(LAST_SEED, 20, 0), 20);
    }

    /** 63: "a PLAYER", "-2: there are none such" */
    private static void p63players() {
        SilenceMatch x = one(60, 0, 10, LOUD4 + MUTE.repeat(7));
        Edge.of("PLAYER", n -> x.luck(5, 20, n), 0, 0, 7, 20, -2);
        due("none such", x.luck(-1, 0, 8), -2);
        SilenceMatch y = new SilenceMatch();
        Edge.of("no GREEN", n -> y.luck(0, 1, n), 0, -2, 7, -2, -2);
    }
}
