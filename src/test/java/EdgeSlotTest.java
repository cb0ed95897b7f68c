import java.util.function.ToLongFunction;

/** Edges of Terms V and SLOTS and of promises 46 to 50 and 68 to 70; one method for a sentence. */
final class EdgeSlotTest {
    private static final String LINE = Texts.head(5, 1, 9, 0, 1);
    private static final int MIN = Integer.MIN_VALUE;
    private static final int MAX = Integer.MAX_VALUE;

    private EdgeSlotTest() {
    }

    public static void main(String[] args) {
        termVloudness();
        termVoneOrZero();
        termVnoWind();
        termSlotsNumbers();
        termSlotsAskedAhead();
        p46slots();
        p46noGreen();
        p46nothing();
        p46noneSuch();
        p46notTwoEach();
        p46askedLast();
        p46emptyAndFull();
        p47bits();
        p47likewise();
        p48bits();
        p48asLoudAsTheyAre();
        p48likewise();
        p49fewest();
        p49fewerThanNow();
        p49likewise();
        p50asNowWithout();
        p50likewise();
        p68slots();
        p68widths();
        p68above60();
        p68below0();
        p68order();
        p68allZero();
        p69numbers();
        p69cut();
        p69notCut();
        p69nothing();
        p69order();
        p70slots();
        p70nothing();
        p70widths();
        p70beyond();
        p70below0();
        p70none();
        p70all();
        p70itsOwn();
        p70order();
        Check.finish("EdgeSlotTest");
    }

    private static void due(String what, long got, long want) {
        Check.due(what, got, want);
    }

    private static SilenceMatch ears() {
        return Texts.made(Slots.EARS);
    }

    /** V: "of a loudness 1 .. 12, from some CELL" */
    private static void termVloudness() {
        for (int deaf = 0; deaf <= 9; deaf++) {
            SilenceMatch x = Texts.made(Texts.TINY + Texts.umpire(0, deaf));
            Slots.row(x, 0, 0, 0, 1);
            due("heard by deafness " + deaf, x.fits(0), deaf == 0 ? 12 : 13 - deaf);
            Slots.row(x, 0, 0, 0, 0);
            due("not heard by deafness " + deaf, x.fits(0), deaf == 0 ? 0 : deaf - 1);
        }
    }

    /** V: "an UMPIRE, 1 (he heard it) or 0" */
    private static void termVoneOrZero() {
        SilenceMatch x = ears();
        Slots.row(x, 0, 3, 3, 1);
        due("1", x.fits(0), 14);
        x.write(0, 1, 0);
        due("0", x.fits(0), 46);
        for (long other : new long[] {2, -1, 255, 256, 257, 65537, 1L << 32, (1L << 32) + 1, Long.MIN_VALUE, Long.MAX_VALUE}) {
            x.write(0, 1, other);
            due("neither: " + other, x.fits(0), -2);
        }
        Slots.row(x, 0, 0, 3, 1, 3, 1, 3, 1);
        due("told again", x.fits(0), 14);
        x.write(0, 5, 0);
        due("both", x.fits(0), 0);
    }

    /** V: "one sound in no WIND" */
    private static void termVnoWind() {
        SilenceMatch x = Texts.made(Slots.EARS + Texts.wind(1, 60));
        Slots.row(x, 0, 0, 0, 1);
        due("as without", x.fits(0), 54);
    }

    /** SLOTS: "rows of numbers of 1, 2, 4 or 8 bytes (WIDTH 0 .. 3), at most 60, or nothing" */
    private static void termSlotsNumbers() {
        SilenceMatch x = ears();
        due("nothing", x.count(13), 0);
        for (int slot = 0; slot <= 3; slot++) {
            due("row", x.row(slot, slot, 60), 0);
            due("the 60th", x.write(slot, 59, 1), 0);
            due("no 61st", x.write(slot, 60, 1), -7);
            due("SLOTS", x.count(13), slot + 1);
        }
        x.row(0, 0, 0);
        due("a row of none is a row", x.count(13), 4);
    }

    /** SLOTS: "-2 is asked ahead of -5, -6" */
    private static void termSlotsAskedAhead() {
        SilenceMatch x = new SilenceMatch();
        due("no GREEN ahead of no row", x.fits(0), -2);
        due("no SLOT ahead of no row", x.write(4, 0, 0), -2);
        due("no SLOT ahead of no row", x.paste(0, 0, 4, 0, 0), -2);
        due("no such k ahead of nothing", x.back(3), -2);
        due("no GREEN ahead of no act", x.undo(), -2);
        Texts.load(x, Texts.BASE);
        for (int act = 0; act < 40; act++) {
            x.move(0, 1);
        }
        due("no CELL ahead of 40 acts", x.move(0, 6), -2);
        due("no PLAYER ahead of 40 acts", x.move(4, 0), -2);
        due("no loud ahead of 40 acts", x.lozenge(0, 13), -2);
        due("no minute ahead of acts", x.bell(61), -2);
        due("no minute ahead of acts", x.bell(0), -2);
    }

    /** 46: "-2: there is no such SLOT" */
    private static void p46slots() {
        SilenceMatch x = ears();
        Slots.row(x, 0, 0, 0, 1);
        Slots.row(x, 3, 3, 3, 1);
        Edge.of("SLOT", n -> x.fits(n), 0, 54, 3, 14, -2);
    }

    /** 46: "no GREEN" */
    private static void p46noGreen() {
        SilenceMatch x = new SilenceMatch();
        x.row(0, 0, 0);
        Edge.of("no GREEN", n -> x.fits(n), 0, -2, 3, -2, -2);
        Texts.load(x, Texts.TINY);
        due("a GREEN", x.fits(0), 12);
        x.green();
        due("none any more", x.fits(0), -2);
    }

    /** 46: "-6: it has nothing" */
    private static void p46nothing() {
        SilenceMatch x = ears();
        Edge.of("nothing", n -> x.fits(n), 0, -6, 3, -6, -2);
        x.row(0, 0, -1);
        due("still nothing", x.fits(0), -6);
        x.row(0, 0, 0);
        due("a row of none", x.fits(0), 60);
    }

    /** 46: "a number is none such" */
    private static void p46noneSuch() {
        SilenceMatch x = ears();
        for (int width = 0; width <= 3; width++) {
            x.row(0, width, 2);
            for (long umpire : new long[] {0, 3}) {
                x.write(0, 0, umpire);
                due("UMPIRE " + umpire, x.fits(0), umpire == 0 ? 6 : 46);
            }
            for (long umpire : new long[] {4, -1, 127, -128}) {
                x.write(0, 0, umpire);
                due("no UMPIRE " + umpire, x.fits(0), -2);
            }
        }
        // Not cut in a row of 8 bytes: they would be UMPIRES if they were.
        for (long umpire : new long[] {256, 65536, 1L << 31, 1L << 32, (1L << 32) + 3, 1L << 63, (1L << 63) + 1}) {
            x.write(0, 0, umpire);
            due("no UMPIRE " + umpire, x.fits(0), -2);
        }
        SilenceMatch y = Texts.made(Texts.BASE);
        Slots.row(y, 0, 0, 1, 0);
        due("the second of two", y.fits(0) >= 0 ? 1 : 0, 1);
        y.write(0, 0, 2);
        due("no third one", y.fits(0), -2);
        SilenceMatch z = Texts.made(Texts.TINY);
        z.row(0, 0, 2);
        due("no UMPIRES at all", z.fits(0), -2);
    }

    /** 46: "not two each" */
    private static void p46notTwoEach() {
        SilenceMatch x = ears();
        for (int n = 0; n <= 60; n++) {
            x.row(0, 0, n);
            int want = n == 0 ? 60 : 6;
            due(n + " numbers", x.fits(0), n % 2 == 0 ? want : -2);
        }
    }

    /** 46: "a number is none such (asked last)" */
    private static void p46askedLast() {
        SilenceMatch x = Texts.made(Texts.TINY);
        due("nothing is asked ahead of numbers", x.fits(1), -6);
        x.row(1, 0, 1);
        due("not two each", x.fits(1), -2);
        x.row(1, 0, 2);
        due("no UMPIRE 0", x.fits(1), -2);
    }

    /** 46: "pairs of a CELL and a loudness that fit a SLOT's row: how many", of an empty row and of a full one */
    private static void p46emptyAndFull() {
        SilenceMatch x = Texts.made(Texts.head(5, 4, 1, 0, 0) + Texts.umpire(19, 9).repeat(4));
        x.row(0, 0, 0);
        due("all that there are", x.fits(0), 240);
        SilenceMatch y = ears();
        y.row(0, 1, 60);
        due("a full row", y.fits(0), 6);
        y.write(0, 59, 1);
        due("its last number contradicts", y.fits(0), 0);
        y.write(0, 59, 2);
        due("its last number is none", y.fits(0), -2);
        y.write(0, 59, 0);
        y.write(0, 58, 4);
        due("its last UMPIRE is none", y.fits(0), -2);
        y.write(0, 58, 3);
        due("its last UMPIRE heard nothing either", y.fits(0), 6);
    }

    /** 47: "CELLS of these, as bits", from none to all */
    private static void p47bits() {
        SilenceMatch x = Texts.made(Texts.head(5, 4, 1, 0, 0) + Texts.umpire(19, 9));
        x.row(0, 0, 0);
        due("all", x.spots(0), 1048575);
        Slots.row(x, 0, 0, 0, 1);
        // 12 is heard three steps away, 9 in the UMPIRE's own CELL alone.
        due("up to three steps from the last one", x.spots(0),
                1 << 19 | 1 << 18 | 1 << 17 | 1 << 16 | 1 << 14 | 1 << 13 | 1 << 12 | 1 << 9 | 1 << 8 | 1 << 4);
        Slots.row(x, 0, 0, 0, 1, 0, 0);
        due("none", x.spots(0), 0);
        SilenceMatch y = Texts.made(Texts.TINY + Texts.umpire(0, 2));
        Slots.row(y, 0, 0, 0, 0);
        due("by a loudness of 1 alone", y.spots(0), 1);
    }

    /** 47: "-2, -6 likewise" */
    private static void p47likewise() {
        likewise("spots", 31);
    }

    /** 48: "PLAYERS who can have coughed so .., as bits", from nobody to all */
    private static void p48bits() {
        SilenceMatch x = Texts.made(Texts.TINY + Texts.umpire(0, 9) + Texts.player(0, 0, 9, 4).repeat(8));
        Slots.row(x, 0, 0, 0, 1);
        due("all", x.who(0), 255);
        Slots.row(x, 0, 0, 0, 0);
        due("nobody", x.who(0), 0);
        x.lozenge(7, 8);
        due("the last alone", x.who(0), 128);
        x.lozenge(0, 8);
        due("and the first", x.who(0), 129);
        due("no PLAYERS", ofNobody(), 0);
    }

    private static long ofNobody() {
        SilenceMatch x = Texts.made(Texts.TINY);
        x.row(0, 0, 0);
        return x.who(0);
    }

    /** 48: "in their CELLS now, as loud as they are": a sound is 1 .. 12, so that one of 0 is none */
    private static void p48asLoudAsTheyAre() {
        SilenceMatch x = Texts.made(LINE + Texts.player(0, 0, 0, 4) + Texts.player(0, 0, 1, 4) + Texts.player(0, 0, 12, 4)
                + Texts.umpire(4, 0));
        x.row(0, 0, 0);
        due("all but the one of 0", x.who(0), 6);
        Slots.row(x, 0, 0, 0, 1);
        due("loud enough", x.who(0), 4);
        x.move(1, 3);
        due("near enough now", x.who(0), 6);
        x.lozenge(0, 4);
        due("loud enough now", x.who(0), 7);
        x.lozenge(0, 3);
        due("one less", x.who(0), 6);
    }

    /** 48: "-2, -6 likewise" */
    private static void p48likewise() {
        likewise("who", 0);
    }

    /** 49: "leaves fewest of these pairs at worst .., the first of several" */
    private static void p49fewest() {
        SilenceMatch x = Texts.made(LINE);
        x.row(0, 0, 0);
        due("both ends are alike", x.ask(0), 0);
        due("of 60", x.leaves(0), 54);
        // Not heard at the right end: what is left is far to the left, and soft.
        SilenceMatch y = Texts.made(LINE + Texts.umpire(4, 0));
        Slots.row(y, 0, 0, 0, 0);
        due("six are left", y.fits(0), 6);
        // 0 with 1, 2, 3; 1 with 1, 2; 2 with 1. From CELL 0: 0 all three, 1 both, 2 none: 5 and 1. From 3: 0 with 3,
        // 1 with 2, 2 with 1: 3 and 3.
        due("asked", y.ask(0), 3);
        due("at worst", y.leaves(0), 3);
    }

    /** 49: "if fewer than now", "NONE: none" */
    private static void p49fewerThanNow() {
        SilenceMatch x = Texts.made(Texts.TINY);
        x.row(0, 0, 0);
        due("he would hear all of twelve", x.ask(0), -1);
        SilenceMatch y = Texts.made(Texts.head(2, 1, 9, 0, 0) + Texts.umpire(0, 2));
        Slots.row(y, 0, 0, 0, 0);
        due("three pairs, all heard from either CELL", y.fits(0), 3);
        due("none", y.ask(0), -1);
        due("as now", y.leaves(0), 3);
        Slots.row(y, 0, 0, 0, 0, 0, 1);
        due("nothing fits", y.ask(0), -1);
    }

    /** 49: "-2, -6 likewise" */
    private static void p49likewise() {
        likewise("ask", 0);
    }

    /** 50: "How many it leaves at worst (as now without)." */
    private static void p50asNowWithout() {
        SilenceMatch x = Texts.made(Texts.TINY + Texts.umpire(0, 0));
        x.row(0, 0, 0);
        due("no CELL to ask on", x.leaves(0), 12);
        Slots.row(x, 0, 0, 0, 0);
        due("nothing is left", x.leaves(0), 0);
        SilenceMatch y = Texts.made(LINE);
        y.row(0, 0, 0);
        due("a CELL to ask on", y.leaves(0), 54);
    }

    /** 50: "-2, -6 likewise" */
    private static void p50likewise() {
        likewise("leaves", 54);
    }

    private static long asked(SilenceMatch x, String name, int slot) {
        switch (name) {
            case "spots":
                return x.spots(slot);
            case "who":
                return x.who(slot);
            case "ask":
                return x.ask(slot);
            default:
                return x.leaves(slot);
        }
    }

    /** SLOTS beyond, no GREEN, nothing, an odd row, numbers that are none; and an empty row of a line of CELLS. */
    private static void likewise(String name, long ofLine) {
        SilenceMatch x = new SilenceMatch();
        ToLongFunction<Integer> ask = slot -> asked(x, name, slot);
        x.row(0, 0, 0);
        Edge.of(name + " without a GREEN", n -> ask.applyAsLong(n), 0, -2, 3, -2, -2);
        Texts.load(x, LINE);
        due(name + " of a row of none", ask.applyAsLong(0), ofLine);
        Edge.of(name, n -> ask.applyAsLong(n), 0, ofLine, 3, -6, -2);
        x.row(3, 3, 1);
        due(name + " of an odd row", ask.applyAsLong(3), -2);
        x.row(3, 3, 2);
        due(name + " of no UMPIRE", ask.applyAsLong(3), -2);
        Texts.load(x, LINE + Texts.umpire(0, 9));
        x.write(3, 1, 2);
        due(name + " of neither 0 nor 1", ask.applyAsLong(3), -2);
        x.write(3, 1, -1);
        due(name + " of neither 0 nor 1", ask.applyAsLong(3), -2);
        x.write(3, 1, 1L << 32);
        due(name + " of neither 0 nor 1", ask.applyAsLong(3), -2);
        x.write(3, 1, 0);
        x.write(3, 0, 1L << 32);
        due(name + " of no UMPIRE", ask.applyAsLong(3), -2);
        x.write(3, 0, 0);
        due(name + " of an UMPIRE", ask.applyAsLong(3) >= 0 ? 1 : 0, 1);
    }

    /** 68: "A SLOT (0 .. 3)" */
    private static void p68slots() {
        SilenceMatch x = ears();
        Edge.of("SLOT", n -> x.row(n, 0, 1), 0, 0, 3, 0, -2);
        due("SLOTS", x.count(13), 2);
    }

    /** 68: "-2: there is no such SLOT or WIDTH (0 .. 3)" */
    private static void p68widths() {
        SilenceMatch x = ears();
        Edge.of("WIDTH", n -> x.row(1, n, 1), 0, 0, 3, 0, -2);
        due("the last that stood", Slots.width(x, 1, 2), 3);
        for (int width = 0; width <= 3; width++) {
            x.row(1, width, 60);
            due("WIDTH", Slots.width(x, 1, 2), width);
        }
    }

    /** 68: "or n is above 60" */
    private static void p68above60() {
        SilenceMatch x = ears();
        Slots.row(x, 0, 0, 3);
        for (int n : new int[] {61, 64, 256, 316, 65536, MAX - 1, MAX}) {
            due("n " + n, x.row(0, 0, n), -2);
        }
        Slots.due("the SLOT stays", x, 0, 1, 0, 3);
        due("60", x.row(0, 0, 60), 0);
        due("0", x.row(0, 0, 0), 0);
        due("no number", x.write(0, 0, 0), -7);
    }

    /** 68: "-3, and the SLOT stays: n is below 0" */
    private static void p68below0() {
        SilenceMatch x = ears();
        due("of nothing", x.row(0, 0, -1), -3);
        due("nothing stays", x.count(13), 0);
        due("nothing stays", x.write(0, 0, 0), -6);
        Slots.row(x, 0, 2, 3, 1, 2);
        for (int n : new int[] {-1, -60, -256, -65536, MIN + 1, MIN}) {
            due("n " + n, x.row(0, 1, n), -3);
        }
        Slots.due("the row stays", x, 0, 1, 2, 3, 1, 2);
        due("the WIDTH stays", Slots.width(x, 0, 1), 2);
    }

    /** 68: -2 ahead of -3 */
    private static void p68order() {
        SilenceMatch x = ears();
        due("no SLOT and below 0", x.row(4, 0, -1), -2);
        due("no SLOT and below 0", x.row(-1, 0, MIN), -2);
        due("no WIDTH and below 0", x.row(0, 4, -1), -2);
        due("no WIDTH and below 0", x.row(0, -1, MIN), -2);
        due("nothing stays", x.count(13), 0);
    }

    /** 68: "a row of n numbers of a WIDTH, all 0 (in place of another one)" */
    private static void p68allZero() {
        SilenceMatch x = ears();
        x.row(0, 0, 60);
        for (int i = 0; i < 60; i++) {
            x.write(0, i, 3);
        }
        x.row(0, 0, 60);
        for (int i = 0; i < 60; i++) {
            due("0 again", Slots.number(x, 0, i, 1, 0), 0);
        }
        x.row(0, 0, 1);
        due("shorter", Slots.number(x, 0, 1, 1, 0), -7);
        x.write(0, 0, 3);
        x.row(0, 0, 2);
        Slots.due("longer again", x, 0, 1, 0, 0, 0);
        due("one SLOT alone", x.write(2, 0, 0), -6);
    }

    /** 69: "-7: there is no such number" */
    private static void p69numbers() {
        SilenceMatch x = ears();
        x.row(0, 0, 60);
        Edge.of("number of 60", n -> x.write(0, n, 3), 0, 0, 59, 0, -7);
        due("written", Slots.number(x, 0, 0, 1, 0), 3);
        due("written", Slots.number(x, 0, 59, 1, 0), 3);
        due("not written", Slots.number(x, 0, 1, 1, 0), 0);
        due("not written", Slots.number(x, 0, 58, 1, 0), 0);
        x.row(0, 0, 1);
        Edge.of("number of 1", n -> x.write(0, n, 3), 0, 0, 0, 0, -7);
        x.row(0, 0, 0);
        Edge.of("number of none", n -> x.write(0, n, 3), 0, -7, 59, -7, -7);
        x.row(0, 0, 3);
        Slots.due("nothing of it", x, 0, 1, 0, 0, 0, 0);
    }

    /** 69: "is v, cut to its WIDTH" */
    private static void p69cut() {
        SilenceMatch x = ears();
        for (int width = 0; width < 3; width++) {
            int bits = 8 << width;
            long whole = 1L << bits;
            x.row(0, width, 1);
            long[] wrapped = {whole, whole + 1, 2 * whole + 2, 3 - whole, 1 - 2 * whole, -whole, Long.MIN_VALUE,
                Long.MIN_VALUE + 3};
            int[] wants = {0, 1, 2, 3, 1, 0, 0, 3};
            for (int i = 0; i < wrapped.length; i++) {
                due("write", x.write(0, 0, wrapped[i]), 0);
                due("cut to " + bits + " bits: " + wrapped[i], Slots.number(x, 0, 0, 1, width), wants[i]);
            }
            // What stays when it is cut is no UMPIRE.
            for (long v : new long[] {whole - 1, whole / 2, whole / 2 - 1, -1, -whole / 2, 4, whole + 4, Long.MAX_VALUE}) {
                due("write", x.write(0, 0, v), 0);
                due("another number: " + v, Slots.number(x, 0, 0, 1, width), -9);
            }
        }
    }

    /** 69: "Number i of the SLOT's row is v": 8 bytes are all of it */
    private static void p69notCut() {
        SilenceMatch x = ears();
        x.row(0, 3, 1);
        for (long v : new long[] {256, 65536, 1L << 31, 1L << 32, (1L << 32) + 1, 1L << 62, 1L << 63, (1L << 63) + 3, -1}) {
            due("write", x.write(0, 0, v), 0);
            due("not cut: " + v, Slots.number(x, 0, 0, 1, 3), -9);
        }
        x.write(0, 0, 2);
        due("2", Slots.number(x, 0, 0, 1, 3), 2);
    }

    /** 69: "-6: it has nothing" */
    private static void p69nothing() {
        SilenceMatch x = ears();
        Edge.of("SLOT of nothing", n -> x.write(n, 0, 1), 0, -6, 3, -6, -2);
        due("none came of it", x.count(13), 0);
    }

    /** 69: -2, -6, -7 in this order */
    private static void p69order() {
        SilenceMatch x = ears();
        due("no SLOT, no number", x.write(4, -1, 0), -2);
        due("nothing, no number", x.write(3, -1, 0), -6);
        due("nothing, no number", x.write(3, MAX, 0), -6);
        x.row(3, 0, 0);
        due("no number", x.write(3, MAX, 0), -7);
        due("no number", x.write(3, MIN, 0), -7);
    }

    /** 70: "-2: there is no such SLOT", either */
    private static void p70slots() {
        SilenceMatch x = ears();
        x.row(0, 0, 1);
        x.row(3, 0, 1);
        Edge.of("from", n -> x.paste(n, 0, 0, 0, 1), 0, 0, 3, 0, -2);
        Edge.of("to", n -> x.paste(0, 0, n, 0, 1), 0, 0, 3, 0, -2);
        Edge.refused("both", n -> x.paste(n, 0, n, 0, 1), 0, 3, -2);
    }

    /** 70: "-6: one has nothing" */
    private static void p70nothing() {
        SilenceMatch x = ears();
        due("both", x.paste(0, 0, 1, 0, 0), -6);
        due("one, its own", x.paste(2, 0, 2, 0, 0), -6);
        x.row(0, 0, 1);
        due("to", x.paste(0, 0, 1, 0, 1), -6);
        due("from", x.paste(1, 0, 0, 0, 1), -6);
        due("none came of it", x.count(13), 1);
    }

    /** 70: "-8: they are not of one WIDTH" */
    private static void p70widths() {
        SilenceMatch x = ears();
        for (int from = 0; from <= 3; from++) {
            for (int to = 0; to <= 3; to++) {
                x.row(0, from, 1);
                x.row(1, to, 1);
                due("WIDTH " + from + " to " + to, x.paste(0, 0, 1, 0, 1), from == to ? 0 : -8);
                due("of none", x.paste(0, 0, 1, 0, 0), from == to ? 0 : -8);
            }
        }
        Slots.row(x, 0, 0, 3);
        Slots.row(x, 1, 3, 2);
        due("unlike", x.paste(0, 0, 1, 0, 1), -8);
        Slots.due("nothing happened", x, 1, 2, 3, 2);
    }

    /** 70: "-7, and nothing happens: some are beyond their rows" */
    private static void p70beyond() {
        SilenceMatch x = ears();
        Slots.row(x, 0, 0, 1, 2, 3);
        Slots.row(x, 1, 0, 3, 3);
        int[][] beyond = {{0, 0, 3}, {0, 1, 2}, {1, 1, 2}, {2, 0, 2}, {3, 0, 1}, {0, 2, 1}, {4, 0, 1}, {0, 3, 1},
            {0, 0, MAX}, {1, 0, MAX}, {0, 1, MAX}, {MAX, 0, 1}, {0, MAX, 1}, {MAX, MAX, MAX}, {256, 0, 1}, {0, 256, 1},
            {2, 0, MAX - 1}, {0, 2, MAX - 1}, {MAX, MAX, 2}};
        for (int[] b : beyond) {
            due("beyond " + b[0] + " " + b[1] + " " + b[2], x.paste(0, b[0], 1, b[1], b[2]), -7);
        }
        Slots.due("nothing happened", x, 1, 2, 0, 3, 3);
        Slots.due("nothing happened", x, 0, 2, 0, 1, 2, 3);
        due("the last one", x.paste(0, 2, 1, 1, 1), 0);
        due("the first ones", x.paste(0, 0, 1, 0, 2), 0);
        Slots.due("put", x, 1, 2, 0, 1, 2);
        due("behind its own end", x.paste(0, 0, 0, 1, 3), -7);
        Slots.due("nothing happened", x, 0, 2, 0, 1, 2, 3);
    }

    /** 70: "or a place or n is below 0" */
    private static void p70below0() {
        SilenceMatch x = ears();
        Slots.row(x, 0, 0, 1, 2, 3);
        Slots.row(x, 1, 0, 3, 3);
        for (int n : new int[] {-1, -2, -256, -65536, MIN + 1, MIN}) {
            due("from " + n, x.paste(0, n, 1, 0, 1), -7);
            due("to " + n, x.paste(0, 0, 1, n, 1), -7);
            due("n " + n, x.paste(0, 0, 1, 0, n), -7);
            due("from " + n + ", none", x.paste(0, n, 1, 0, 0), -7);
            due("to " + n + ", none", x.paste(0, 0, 1, n, 0), -7);
            due("all " + n, x.paste(0, n, 1, n, n), -7);
            due("n " + n + " from behind", x.paste(0, 3, 1, 2, n), -7);
        }
        Slots.due("nothing happened", x, 1, 2, 0, 3, 3);
    }

    /** 70: "So many numbers": none, from each place to the rows' ends */
    private static void p70none() {
        SilenceMatch x = ears();
        Slots.row(x, 0, 0, 1, 2, 3);
        Slots.row(x, 1, 0, 3, 3);
        due("from the begin", x.paste(0, 0, 1, 0, 0), 0);
        due("from the ends", x.paste(0, 3, 1, 2, 0), 0);
        due("from behind an end", x.paste(0, 4, 1, 0, 0), -7);
        due("to behind an end", x.paste(0, 0, 1, 3, 0), -7);
        Slots.due("nothing happened", x, 1, 2, 0, 3, 3);
        x.row(2, 1, 0);
        x.row(3, 1, 0);
        due("of empty rows", x.paste(2, 0, 3, 0, 0), 0);
        due("one of an empty row", x.paste(2, 0, 3, 0, 1), -7);
    }

    /** 70: "are put to another one's (or its own), from one on": full rows */
    private static void p70all() {
        SilenceMatch x = ears();
        for (int width = 0; width <= 3; width++) {
            x.row(0, width, 60);
            x.row(1, width, 60);
            x.write(0, 0, 1);
            x.write(0, 59, 3);
            due("61 of 60", x.paste(0, 0, 1, 0, 61), -7);
            due("all 60", x.paste(0, 0, 1, 0, 60), 0);
            due("the first", Slots.number(x, 1, 0, 2, width), 1);
            due("the second", Slots.number(x, 1, 1, 2, width), 0);
            due("the last", Slots.number(x, 1, 59, 2, width), 3);
            due("the last to the first", x.paste(0, 59, 1, 0, 1), 0);
            due("the first", Slots.number(x, 1, 0, 2, width), 3);
            due("where it came from", Slots.number(x, 0, 59, 2, width), 3);
        }
    }

    /** 70: "(or its own) .. as they were" */
    private static void p70itsOwn() {
        SilenceMatch x = ears();
        Slots.row(x, 0, 0, 1, 2, 3, 0);
        due("one further", x.paste(0, 0, 0, 1, 3), 0);
        Slots.due("not one thrice", x, 0, 1, 0, 1, 1, 2, 3);
        Slots.row(x, 0, 0, 0, 1, 2, 3);
        due("one back", x.paste(0, 1, 0, 0, 3), 0);
        Slots.due("not the last thrice", x, 0, 1, 0, 1, 2, 3, 3);
        Slots.row(x, 0, 0, 0, 1, 2, 3);
        due("on itself", x.paste(0, 0, 0, 0, 4), 0);
        Slots.due("as it was", x, 0, 1, 0, 0, 1, 2, 3);
    }

    /** 70: -2, -6, -8, -7 in this order */
    private static void p70order() {
        SilenceMatch x = ears();
        due("no SLOT, nothing, below 0", x.paste(0, -1, 4, -1, -1), -2);
        due("no SLOT, nothing, below 0", x.paste(-1, -1, 0, -1, -1), -2);
        due("nothing, below 0", x.paste(0, -1, 1, -1, -1), -6);
        x.row(0, 0, 1);
        due("nothing, below 0", x.paste(0, -1, 1, -1, -1), -6);
        x.row(1, 1, 1);
        due("not of one WIDTH, below 0", x.paste(0, -1, 1, -1, -1), -8);
        due("not of one WIDTH, beyond", x.paste(0, 2, 1, 2, 2), -8);
        x.row(1, 0, 1);
        due("below 0", x.paste(0, -1, 1, -1, -1), -7);
    }
}
