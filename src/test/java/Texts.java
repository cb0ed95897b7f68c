/** Texts of GREENS, put together by their numbers, for the tests of edges. */
final class Texts {
    /** CELLS 0 1 2 / 3 4 5. OUT: 2 in minute 6, 0 in 8, 1 (laughing) in 9, 3 (laughing) in 10. */
    static final String BASE = head(3, 2, 20, 2, 1) + player(0, 0, 1, 4) + player(0, 1, 0, 5) + player(1, 4, 2, 6)
            + player(1, 5, 1, 7) + umpire(0, 0) + umpire(2, 1) + wind(4, 5) + friends(0, 1) + friends(1, 3);

    /** The least GREEN: one CELL, one minute, nobody. */
    static final String TINY = head(1, 1, 1, 0, 0);

    /**
     * As many of all as there may be. OUT: 0 in minute 4, then by LAUGHTER 1, 4 and 7 in 5, all others in 6;
     * UMPIRE 0 HEARS each of them.
     */
    static final String FULL = head(5, 4, 60, 12, 10) + player(0, 0, 12, 4) + player(1, 1, 0, 30)
            + player(0, 2, 0, 30) + player(1, 3, 0, 30) + player(0, 4, 0, 30) + player(1, 5, 0, 30)
            + player(0, 6, 0, 30) + player(1, 19, 12, 30)
            + umpire(0, 0) + umpire(19, 9) + umpire(4, 9) + umpire(15, 9)
            + wind(1, 3) + wind(10, 20) + wind(60, 60)
            + friends(0, 1) + friends(1, 2) + friends(2, 3) + friends(3, 4) + friends(4, 5) + friends(5, 6)
            + friends(6, 7) + friends(7, 0) + friends(0, 4);

    private Texts() {
    }

    static String head(int wide, int high, int bell, int laugh, int odds) {
        return "green wide " + wide + " high " + high + " bell " + bell + " laugh " + laugh + " odds " + odds + ";";
    }

    static String player(int side, int cell, int loud, int every) {
        return "player on " + side + " at " + cell + " loud " + loud + " every " + every + ";";
    }

    static String umpire(int cell, int deaf) {
        return "umpire at " + cell + " deaf " + deaf + ";";
    }

    static String wind(int from, int to) {
        return "wind from " + from + " to " + to + ";";
    }

    static String friends(int one, int two) {
        return "friends " + one + " " + two + ";";
    }

    /** A new object with the GREEN of a text that must have no FAULT. */
    static SilenceMatch made(String text) {
        return Check.green(text, (int) text.chars().filter(c -> c == ';').count());
    }

    /** Puts another GREEN in place of an object's one. */
    static void load(SilenceMatch x, String text) {
        x.end(0);
        Check.tape(x, text);
        Check.due("green() of " + text, x.green(), text.chars().filter(c -> c == ';').count());
    }
}
