/** Reads SLOTS' numbers, as far as can be: by what a row of HEARD with them in it fits. */
final class Slots {
    /** Four UMPIRES who HEAR 54, 57, 58 and 14 of the 60 pairs of a CELL and a loudness. */
    static final String EARS = Texts.head(5, 1, 20, 0, 1) + Texts.umpire(0, 0) + Texts.umpire(1, 0)
            + Texts.umpire(2, 0) + Texts.umpire(2, 9);

    private Slots() {
    }

    /** The number at a place, 0 .. 3; -7: there is none; -9: it is another one. The spare SLOT's row is lost. */
    static int number(SilenceMatch x, int slot, int place, int spare, int width) {
        x.row(spare, width, 2);
        x.write(spare, 1, 1);
        int pasted = x.paste(slot, place, spare, 0, 1);
        if (pasted != 0) {
            return pasted;
        }
        switch (x.fits(spare)) {
            case 54:
                return 0;
            case 57:
                return 1;
            case 58:
                return 2;
            case 14:
                return 3;
            default:
                return -9;
        }
    }

    /** The WIDTH of a SLOT's row, found by what may be pasted to the spare one; NONE if it has nothing. */
    static int width(SilenceMatch x, int slot, int spare) {
        for (int width = 0; width <= 3; width++) {
            x.row(spare, width, 0);
            if (x.paste(slot, 0, spare, 0, 0) == 0) {
                return width;
            }
        }
        return -1;
    }

    /** Makes a row of these numbers. */
    static void row(SilenceMatch x, int slot, int width, long... numbers) {
        Check.due("row", x.row(slot, width, numbers.length), 0);
        for (int i = 0; i < numbers.length; i++) {
            Check.due("write", x.write(slot, i, numbers[i]), 0);
        }
    }

    /** Checks that a SLOT's row has these numbers (0 .. 3) and no more. */
    static void due(String what, SilenceMatch x, int slot, int spare, int width, int... numbers) {
        for (int i = 0; i < numbers.length; i++) {
            Check.due(what + ", number " + i, number(x, slot, i, spare, width), numbers[i]);
        }
        Check.due(what + ", behind the last", number(x, slot, numbers.length, spare, width), -7);
    }
}
