/** FAULTS of green(): which one, and where. */
final class FaultsTest {
    private static final String HEAD = "green wide 3 high 2 bell 9 laugh 1 odds 1;";
    private static final String PLAYER = "player on 0 at 0 loud 5 every 4;";
    private static final String UMPIRE = "umpire at 0 deaf 0;";
    private static final String WIND = "wind from 1 to 2;";
    private static final String FRIENDS = "friends 0 1;";

    private FaultsTest() {
    }

    public static void main(String[] args) {
        heads();
        lines();
        tokens();
        numbers();
        crowds();
        rightOnes();
        Check.finish("FaultsTest");
    }

    private static void faulty(String text, int fault, int place) {
        SilenceMatch x = new SilenceMatch();
        Check.tape(x, text);
        Check.due("green() of " + text, x.green(), -4);
        Check.due("fault(0) of " + text, x.fault(0), fault);
        Check.due("fault(1) of " + text, x.fault(1), place);
        Check.due("no GREEN of " + text, x.wins(), -2);
    }

    /** The FAULT is at the last TOKEN of a text without blanks behind it. */
    private static void faultyLast(String text, int fault) {
        int place = text.length();
        while (place > 0 && text.charAt(place - 1) != ' ' && text.charAt(place - 1) != ';') {
            place--;
        }
        faulty(text, fault, place);
    }

    private static void heads() {
        faulty("player on 0 at 0 loud 5 every 4;" + HEAD, 1, 0);
        faulty("  umpire", 1, 2);
        faulty(";", 1, 0);
        faulty("7", 1, 0);
        faulty("greens", 1, 0);
        faulty("greenz", 1, 0);
        faulty("agreen", 1, 0);
        faulty("xreen wide", 1, 0);
        faulty("greem wide", 1, 0);
        faulty("gree wide", 1, 0);
        faulty(HEAD + "xmpire", 1, 42);
        faulty(HEAD + "umpirf", 1, 42);
        faulty("green", 1, 5);
        faulty("green \n ", 1, 8);
        faulty("green high", 1, 6);
        faulty("green wide wide", 1, 11);
        faulty("green wide;", 1, 10);
        faulty("green 5", 1, 6);
        faultyLast("green wide 0", 2);
        faultyLast("green wide 6", 2);
        faultyLast("green wide 5 high 0", 2);
        faultyLast("green wide 5 high 5", 2);
        faultyLast("green wide 5 high 4 bell 0", 2);
        faultyLast("green wide 5 high 4 bell 61", 2);
        faultyLast("green wide 5 high 4 bell 60 laugh 13", 2);
        faultyLast("green wide 5 high 4 bell 60 laugh 12 odds 11", 2);
        faulty("green wide 5 high 4 bell 60 laugh 12 odds 10", 1, 44);
        faulty(HEAD.substring(0, 41) + " player", 1, 42);
        faulty(HEAD + HEAD, 1, 42);
        faulty(HEAD + ";", 1, 42);
        faulty(HEAD + " 5", 1, 43);
        faulty(HEAD + "players", 1, 42);
        faulty(HEAD + "wide", 1, 42);
    }

    private static void lines() {
        faultyLast(HEAD + "player on 2", 2);
        faultyLast(HEAD + "player on 1 at 6", 2);
        faultyLast(HEAD + "player on 1 at 5 loud 13", 2);
        faultyLast(HEAD + "player on 1 at 5 loud 12 every 3", 2);
        faultyLast(HEAD + "player on 1 at 5 loud 12 every 31", 2);
        faultyLast(HEAD + "player at", 1);
        faulty(HEAD + "player on 1 at 5 loud 12 every 30", 1, 75);
        faultyLast(HEAD + "umpire at 6", 2);
        faultyLast(HEAD + "umpire at 5 deaf 10", 2);
        faultyLast(HEAD + "umpire on", 1);
        faultyLast(HEAD + "wind from 0", 2);
        faultyLast(HEAD + "wind from 61", 2);
        faultyLast(HEAD + "wind from 5 to 4", 2);
        faultyLast(HEAD + "wind from 5 to 61", 2);
        faultyLast(HEAD + "wind from 5 from", 1);
        faultyLast(HEAD + "friends 0", 2);
        faultyLast(HEAD + PLAYER + "friends 1", 2);
        faultyLast(HEAD + PLAYER + "friends 0 0", 2);
        faultyLast(HEAD + PLAYER + "friends 0 1", 2);
        faulty(HEAD + PLAYER + FRIENDS + PLAYER, 2, 84);
        faulty(HEAD + PLAYER + PLAYER + "friends 0;", 1, 115);
        faulty(HEAD + PLAYER + PLAYER + "friends 0 1 0;", 1, 118);
        faulty(HEAD + "friends", 1, 49);
    }

    private static void tokens() {
        faulty("Green", 1, 0);
        faulty("green wide -1", 1, 11);
        faulty("green wide 1.5", 1, 12);
        faulty("green\twide", 1, 5);
        faulty("green\rwide", 1, 5);
        faulty(HEAD + (char) 0, 1, 42);
        faulty(HEAD + (char) 255, 1, 42);
        faulty(HEAD + ":", 1, 42);
        faulty(HEAD + "player on 0 at 0 loud 5 every 4x;", 1, 73);
        faulty("greenwide 3", 1, 0);
        // The first by its place, though a later one is less.
        faulty("green wide 9 high !", 2, 11);
    }

    private static void numbers() {
        faultyLast("green wide 4294967297", 2);
        faultyLast("green wide 18446744073709551617", 2);
        faultyLast("green wide 99999999999999999999999999999999999999", 2);
        faultyLast("green wide 00000000000000000000000000000000000006", 2);
    }

    private static void crowds() {
        faulty(HEAD + PLAYER.repeat(9), 3, 42 + 8 * 32);
        faulty(HEAD + PLAYER.repeat(8) + "player", 3, 42 + 8 * 32);
        faulty(HEAD + UMPIRE.repeat(5), 3, 42 + 4 * 19);
        faulty(HEAD + WIND.repeat(4), 3, 42 + 3 * 17);
        faulty(HEAD + PLAYER.repeat(2) + FRIENDS.repeat(10), 3, 42 + 2 * 32 + 9 * 12);
        faulty(HEAD + PLAYER.repeat(9) + "?", 3, 42 + 8 * 32);
    }

    private static void rightOnes() {
        Check.green(HEAD, 1);
        Check.green("", 0);
        Check.green(" \n", 0);
        Check.green(HEAD + "\n\n  ", 1);
        Check.green("\n green\nwide3high2bell9laugh1odds1;player on1at5loud12every30;", 2);
        Check.green("green wide 003 high 02 bell 0000000000000000000009 laugh 00 odds 010 ;", 1);
        SilenceMatch x = Check.green(HEAD + PLAYER.repeat(8) + UMPIRE.repeat(4) + WIND.repeat(3) + FRIENDS.repeat(9), 25);
        Check.due("PLAYERS", x.count(6), 8);
        Check.due("UMPIRES", x.count(7), 4);
        Check.due("WINDS", x.count(8), 3);
        Check.due("FRIENDS", x.count(9), 9);
        Check.green(HEAD + "wind from 60 to 60;" + UMPIRE + PLAYER + PLAYER + "friends 1 0;" + PLAYER + "friends 2 0;", 8);
    }
}
