/** Edges of Terms I and of the text block on TOKENS and FAULTS, of promises 1 to 5: one method for a sentence. */
final class EdgeTextTest {
    private static final String HEAD = Texts.head(3, 2, 9, 1, 1);
    private static final String PLAYER = Texts.player(0, 0, 5, 4);
    private static final String UMPIRE = Texts.umpire(0, 0);
    private static final String WIND = Texts.wind(1, 2);
    private static final String FRIENDS = Texts.friends(0, 1);

    private EdgeTextTest() {
    }

    public static void main(String[] args) {
        termIgreenNumbers();
        termIgreenFirstAndNoOther();
        termIcells();
        termIplayerNumbers();
        termIseveralInOneCell();
        termIumpireNumbers();
        termIwindMinutes();
        termIwindLastNoLess();
        termIfriendsToldAhead();
        termIfriendsUnlike();
        termInumberedAsTheyStand();
        tokensBlanks();
        tokensLongest();
        tokensEveryByte();
        faultsFirstByPlace();
        faultsOfOnePlaceTheLeast();
        faultsTheEndsPlace();
        faultsEveryTokenOfEveryLine();
        faultsNotAsSaid();
        faultsTooMany();
        upTo512calls();
        p01noGreen();
        p02howMany();
        p02highestFirst();
        p02beyond900();
        p03firstAlone();
        p03notSoMany();
        p04emptyThen();
        p04inPlaceOfAnother();
        p04nothingDone();
        p04lines();
        p04none();
        p04fault();
        p05withoutFault();
        p05place();
        p05otherWhat();
        p05aheadOfAny();
        p05latest();
        Check.finish("EdgeTextTest");
    }

    private static void faulty(String text, int fault, int place) {
        SilenceMatch x = new SilenceMatch();
        Check.tape(x, text);
        Check.due("green() of " + text, x.green(), -4);
        Check.due("fault(0) of " + text, x.fault(0), fault);
        Check.due("fault(1) of " + text, x.fault(1), place);
        Check.due("count(11) of " + text, x.count(11), 0);
        Check.due("count(12) of " + text, x.count(12), text.length());
    }

    /** A number in a text: its least and its greatest stand, what is beyond is FAULT 2 at its place. */
    private static void bounds(String before, int low, int high, String behind) {
        Texts.made(before + low + behind);
        Texts.made(before + high + behind);
        Texts.made(before + "000000000000000000000000" + low + behind);
        if (low > 0) {
            faulty(before + (low - 1) + behind, 2, before.length());
        }
        faulty(before + (high + 1) + behind, 2, before.length());
        faulty(before + "0000" + (high + 1) + behind, 2, before.length());
        // Numbers that would wrap around into the bounds, cut to 1, 2, 4 or 8 bytes.
        for (int bits : new int[] {8, 16, 31, 32, 63, 64, 128}) {
            String wrapped = java.math.BigInteger.ONE.shiftLeft(bits).add(java.math.BigInteger.valueOf(high)).toString();
            faulty(before + wrapped + behind, 2, before.length());
        }
        faulty(before + "-" + low + behind, 1, before.length());
    }

    /** I: "wide 1 .. 5, high 1 .. 4, bell 1 .. 60, laugh 0 .. 12, odds 0 .. 10" */
    private static void termIgreenNumbers() {
        bounds("green wide ", 1, 5, " high 1 bell 1 laugh 0 odds 0;");
        bounds("green wide 5 high ", 1, 4, " bell 1 laugh 0 odds 0;");
        bounds("green wide 5 high 4 bell ", 1, 60, " laugh 0 odds 0;");
        bounds("green wide 5 high 4 bell 60 laugh ", 0, 12, " odds 0;");
        bounds("green wide 5 high 4 bell 60 laugh 12 odds ", 0, 10, ";");
        int[] greatest = {5, 4, 60, 12, 10, 20};
        int[] least = {1, 1, 1, 0, 0, 1};
        SilenceMatch x = Texts.made(Texts.head(5, 4, 60, 12, 10));
        SilenceMatch y = Texts.made(Texts.head(1, 1, 1, 0, 0));
        for (int what = 0; what < greatest.length; what++) {
            Check.due("greatest " + what, x.count(what), greatest[what]);
            Check.due("least " + what, y.count(what), least[what]);
        }
    }

    /** I: "green is the first LINE and no other" */
    private static void termIgreenFirstAndNoOther() {
        faulty(PLAYER + HEAD, 1, 0);
        faulty(UMPIRE + HEAD, 1, 0);
        faulty(WIND + HEAD, 1, 0);
        faulty(FRIENDS + HEAD, 1, 0);
        faulty(HEAD + HEAD, 1, 42);
        faulty(HEAD + PLAYER + HEAD, 1, 42 + 32);
        faulty(HEAD + UMPIRE + "green", 1, 42 + 19);
    }

    /** I: "CELLS 0 .. wide times high, less 1, row by row" */
    private static void termIcells() {
        for (int wide = 1; wide <= 5; wide++) {
            for (int high = 1; high <= 4; high++) {
                String head = Texts.head(wide, high, 60, 12, 10);
                bounds(head + "player on 0 at ", 0, wide * high - 1, " loud 0 every 4;");
                bounds(head + "umpire at ", 0, wide * high - 1, " deaf 0;");
                SilenceMatch x = Texts.made(head);
                Check.due("CELLS", x.count(5), wide * high);
                Check.due("the last one", x.far(0, wide * high - 1), wide - 1 + high - 1);
                Check.due("behind the last one", x.far(0, wide * high), -2);
            }
        }
        SilenceMatch x = Texts.made(Texts.head(5, 4, 60, 12, 10));
        Check.due("4 is in the row of 0", x.far(0, 4), 4);
        Check.due("5 is in the next row", x.far(0, 5), 1);
    }

    /** I: "player: his SIDE 0, 1, a CELL (several may be in one), loud 0 .. 12, every 4 .. 30" */
    private static void termIplayerNumbers() {
        bounds(HEAD + "player on ", 0, 1, " at 0 loud 0 every 4;");
        bounds(HEAD + "player on 1 at ", 0, 5, " loud 0 every 4;");
        bounds(HEAD + "player on 1 at 5 loud ", 0, 12, " every 4;");
        bounds(HEAD + "player on 1 at 5 loud 12 every ", 4, 30, ";");
        SilenceMatch x = Texts.made(HEAD + Texts.player(0, 0, 0, 4) + Texts.player(1, 5, 12, 30));
        int[][] wants = {{0, 0, 0, 4}, {1, 5, 12, 30}};
        for (int p = 0; p < 2; p++) {
            for (int what = 0; what < 4; what++) {
                Check.due("player " + p + " " + what, x.player(p, what), wants[p][what]);
            }
        }
    }

    /** I: "several may be in one" */
    private static void termIseveralInOneCell() {
        SilenceMatch x = Texts.made(HEAD + Texts.player(0, 5, 0, 4).repeat(8) + Texts.umpire(5, 0).repeat(4));
        Check.due("all are there", x.crowd(5), 255);
        Check.due("UMPIRES too", x.ears(5, 1), 15);
    }

    /** I: "umpire: deaf 0 .. 9" */
    private static void termIumpireNumbers() {
        bounds(HEAD + "umpire at 5 deaf ", 0, 9, ";");
        SilenceMatch x = Texts.made(HEAD + Texts.umpire(0, 0) + Texts.umpire(5, 9));
        Check.due("deaf", x.umpire(0, 1), 0);
        Check.due("deaf", x.umpire(1, 1), 9);
    }

    /** I: "wind: minutes 1 .. 60" (not 1 .. bell) */
    private static void termIwindMinutes() {
        bounds(Texts.TINY + "wind from ", 1, 60, " to 60;");
        bounds(Texts.TINY + "wind from 1 to ", 1, 60, ";");
        SilenceMatch x = Texts.made(Texts.TINY + Texts.wind(1, 60));
        Check.due("the first", x.wind(1), 1);
        Check.due("the last", x.wind(60), 1);
        SilenceMatch y = Texts.made(Texts.TINY + Texts.wind(60, 60));
        Check.due("not ahead of it", y.wind(59), 0);
        Check.due("behind the bell", y.wind(60), 1);
    }

    /** I: "its last no less than its first" */
    private static void termIwindLastNoLess() {
        bounds(HEAD + "wind from 30 to ", 30, 60, ";");
        bounds(HEAD + "wind from 60 to ", 60, 60, ";");
        faulty(HEAD + "wind from 2 to 1;", 2, 42 + 15);
        faulty(HEAD + "wind from 60 to 1;", 2, 42 + 16);
    }

    /** I: "friends: two unlike PLAYERS told ahead" */
    private static void termIfriendsToldAhead() {
        faulty(HEAD + "friends 0 1;", 2, 42 + 8);
        faulty(HEAD + PLAYER + "friends 1 0;", 2, 74 + 8);
        faulty(HEAD + PLAYER + "friends 0 1;", 2, 74 + 10);
        faulty(HEAD + PLAYER + FRIENDS + PLAYER, 2, 74 + 10);
        Texts.made(HEAD + PLAYER + PLAYER + FRIENDS);
        Texts.made(HEAD + PLAYER.repeat(3) + "friends 2 0;friends 0 2;");
        faulty(HEAD + PLAYER.repeat(3) + "friends 3 0;", 2, 42 + 96 + 8);
        faulty(HEAD + PLAYER.repeat(3) + "friends 4294967296 1;", 2, 42 + 96 + 8);
        bounds(HEAD + PLAYER.repeat(3) + "friends 0 ", 1, 2, ";");
        bounds(HEAD + PLAYER.repeat(8) + "friends 0 ", 1, 7, ";");
        faulty(HEAD + PLAYER.repeat(8) + "friends 8 0;", 2, 42 + 256 + 8);
        faulty(HEAD + PLAYER.repeat(8) + "friends 7 8;", 2, 42 + 256 + 10);
        SilenceMatch x = Texts.made(HEAD + PLAYER.repeat(8) + Texts.friends(7, 0));
        Check.due("FRIENDS of 7", x.player(7, 4), 1);
        Check.due("FRIENDS of 0", x.player(0, 4), 128);
    }

    /** I: "two unlike PLAYERS" */
    private static void termIfriendsUnlike() {
        faulty(HEAD + PLAYER + PLAYER + "friends 0 0;", 2, 106 + 10);
        faulty(HEAD + PLAYER + PLAYER + "friends 1 1;", 2, 106 + 10);
        faulty(HEAD + PLAYER + PLAYER + "friends 1 01;", 2, 106 + 10);
        SilenceMatch x = Texts.made(HEAD + PLAYER + PLAYER + "friends 1 0;friends 0 1;friends 1 0;");
        Check.due("pairs told again are pairs", x.count(9), 3);
        Check.due("one FRIEND", x.player(0, 4), 2);
    }

    /** I: "PLAYERS 0 .. 7, UMPIRES 0 .. 3, WINDS 0 .. 2, FRIENDS 0 .. 8 are numbered as they stand" */
    private static void termInumberedAsTheyStand() {
        SilenceMatch x = Texts.made(HEAD + Texts.wind(7, 8) + Texts.umpire(5, 1) + Texts.player(1, 5, 1, 30)
                + Texts.umpire(4, 2) + Texts.player(0, 4, 2, 29) + Texts.friends(1, 0) + Texts.player(1, 3, 3, 28)
                + Texts.wind(3, 3) + Texts.umpire(3, 3) + Texts.friends(2, 0) + Texts.player(0, 2, 4, 27));
        for (int p = 0; p < 4; p++) {
            Check.due("CELL of " + p, x.player(p, 1), 5 - p);
            Check.due("every of " + p, x.player(p, 3), 30 - p);
        }
        for (int u = 0; u < 3; u++) {
            Check.due("CELL of UMPIRE " + u, x.umpire(u, 0), 5 - u);
        }
        Check.due("pair 0", x.parts(0, 1), 1);
        Check.due("pair 1", x.parts(0, 2), 2);
        SilenceMatch y = Texts.made(Texts.FULL);
        Check.due("PLAYER 7", y.player(7, 1), 19);
        Check.due("UMPIRE 3", y.umpire(3, 0), 15);
        Check.due("pair 8 and the ones at 0", y.parts(1, 0) & 256, 0);
        int[] counts = {8, 4, 3, 9};
        for (int what = 6; what <= 9; what++) {
            Check.due("count " + what, y.count(what), counts[what - 6]);
        }
    }

    /** TOKENS: "blanks (32, 10) aside" */
    private static void tokensBlanks() {
        SilenceMatch x = new SilenceMatch();
        Check.tape(x, "\n \n  green \n wide\n\n3  high 2 bell 9 laugh 1 odds 1 \n ;\n  \n");
        Check.due("green", x.green(), 1);
        int[] noBlanks = {0, 9, 11, 12, 13, 31, 33, 127, 128, 160, 255};
        for (int sign : noBlanks) {
            faulty("green" + (char) sign + "wide 3", 1, 5);
            faulty((char) sign + HEAD, 1, 0);
            faulty(HEAD + (char) sign, 1, 42);
        }
    }

    /** TOKENS: "the longest: words (a .. z), numbers (digits), the sign ;" */
    private static void tokensLongest() {
        faulty("greenwide 3", 1, 0);
        faulty("gree n wide 3", 1, 0);
        faulty("green wide 3 high 2 bell 6 0", 1, 27);
        faulty("green wide 33", 2, 11);
        faulty(HEAD + ";;", 1, 42);
        Texts.made("green wide3high2bell9laugh1odds1;player on0at0loud5every4;umpire at0deaf0;");
        SilenceMatch x = Texts.made("green wide 3high 2bell 60laugh 12odds 10;");
        Check.due("bell 60 is one number", x.count(2), 60);
        faulty("zgreen wide 3", 1, 0);
        faulty("greena wide 3", 1, 0);
        faulty("green wide 3 high 2 bell 9 laugh 1 odds 1z;", 1, 41);
    }

    /** TOKENS, byte by byte behind a number: a blank parts, a digit goes on, all else can't stand there. */
    private static void tokensEveryByte() {
        for (int sign = 0; sign < 256; sign++) {
            String text = "green wide 3" + (char) sign + "high 2 bell 9 laugh 1 odds 1;";
            if (sign == 32 || sign == 10) {
                Texts.made(text);
            } else if (sign >= '0' && sign <= '9') {
                faulty(text, 2, 11);
            } else {
                faulty(text, 1, 12);
            }
        }
    }

    /** FAULTS: "the first by its place (a TOKEN's first byte; the end's)" */
    private static void faultsFirstByPlace() {
        faulty("green wide 9 high !", 2, 11);
        faulty("green wide 3 ! high 9", 1, 13);
        faulty(HEAD + PLAYER.repeat(9) + "!", 3, 42 + 256);
        faulty(HEAD + "player on 9 at 99 loud 99", 2, 42 + 10);
        faulty(HEAD + WIND.repeat(4) + HEAD, 3, 42 + 51);
        faulty(HEAD + "   umpire at    00006 deaf 99", 2, 42 + 16);
    }

    /** FAULTS: "of one place the least" */
    private static void faultsOfOnePlaceTheLeast() {
        // A number out of all bounds, or a 9th player's word, where neither can stand: 1, not 2 or 3.
        faulty("99", 1, 0);
        faulty("green 99", 1, 6);
        faulty(HEAD + "99", 1, 42);
        faulty(HEAD + PLAYER.repeat(8) + "player;", 3, 42 + 256);
        faulty(HEAD + PLAYER.repeat(8) + "umpire at player", 1, 42 + 256 + 10);
        faulty(HEAD + PLAYER.repeat(8).substring(0, 255) + "player", 1, 42 + 255);
        faulty(HEAD + UMPIRE.repeat(4) + "player on umpire", 1, 42 + 76 + 10);
        faulty(HEAD + WIND.repeat(3) + "umpire wind", 1, 42 + 51 + 7);
        faulty(HEAD + PLAYER.repeat(2) + FRIENDS.repeat(9) + "wind friends", 1, 42 + 64 + 108 + 5);
    }

    /** FAULTS: a place is "a TOKEN's first byte; the end's" */
    private static void faultsTheEndsPlace() {
        faulty("green", 1, 5);
        faulty("green wide", 1, 10);
        faulty("green wide 3 ", 1, 13);
        faulty("green wide 3 high 2 bell 9 laugh 1 odds 1", 1, 41);
        faulty("green wide 3 high 2 bell 9 laugh 1 odds 1 \n ", 1, 44);
        // A TAPE that is full, the last LINE cut off by it.
        faulty(HEAD + " ".repeat(900 - 42 - 6) + "umpire", 1, 900);
        faulty(HEAD + " ".repeat(900 - 42 - 7) + "umpire ", 1, 900);
        faulty(HEAD + " ".repeat(900 - 42 - 1) + "?", 1, 899);
        Texts.made(HEAD + " ".repeat(900 - 42));
        Texts.made(HEAD + " ".repeat(900 - 42 - 19) + UMPIRE);
    }

    /** FAULTS: "1 a TOKEN that is none, or can't stand there", at each place of each kind of LINE */
    private static void faultsEveryTokenOfEveryLine() {
        String two = HEAD + PLAYER + PLAYER;
        everyToken("", "green wide 3 high 2 bell 9 laugh 1 odds 1 ;".split(" "));
        everyToken(two, "player on 0 at 0 loud 5 every 4 ;".split(" "));
        everyToken(two, "umpire at 0 deaf 0 ;".split(" "));
        everyToken(two, "wind from 1 to 2 ;".split(" "));
        everyToken(two, "friends 0 1 ;".split(" "));
    }

    private static void everyToken(String ahead, String[] tokens) {
        String text = ahead;
        for (String token : tokens) {
            if (!text.equals(ahead)) {
                faulty(text, 1, text.length());
                text += " ";
                faulty(text, 1, text.length());
            }
            for (String other : new String[] {"!", "green", "player", "umpire", "wind", "friends", "wide", "at", "x", ";", "7"}) {
                boolean starts = !ahead.isEmpty() && text.equals(ahead) && other.length() > 3
                        && !other.equals("wide") && !other.equals("green");
                boolean number = Character.isDigit(token.charAt(0)) && other.equals("7");
                if (!starts && !number && !other.equals(token)) {
                    faulty(text + other, 1, text.length());
                }
            }
            if (Character.isLetter(token.charAt(0))) {
                everyLetter(text, token);
            }
            text += token;
        }
        Texts.made(text);
    }

    /** A word with a letter changed, left out or put to it is another one. */
    private static void everyLetter(String ahead, String word) {
        for (int i = 0; i < word.length(); i++) {
            String begin = word.substring(0, i);
            String end = word.substring(i + 1);
            faulty(ahead + begin + (char) (word.charAt(i) + 1) + end, 1, ahead.length());
            faulty(ahead + begin + end, 1, ahead.length());
            faulty(ahead + begin + "z" + word.substring(i), 1, ahead.length());
        }
        faulty(ahead + word + "a", 1, ahead.length());
        faulty(ahead + word + "z", 1, ahead.length());
    }

    /** FAULTS: "2 a number out of its bounds, not as said" */
    private static void faultsNotAsSaid() {
        // Out of bounds, a last minute less than the first, a PLAYER not told ahead, one twice: all at the number.
        faulty("green wide 0", 2, 11);
        faulty("green wide 6 high 1 bell 1 laugh 0 odds 0;", 2, 11);
        faulty(HEAD + "wind from 5 to 4;", 2, 42 + 15);
        faulty(HEAD + PLAYER + "friends 0 7;", 2, 74 + 10);
        faulty(HEAD + PLAYER + "friends 0 0;", 2, 74 + 10);
        // A CELL of another GREEN: what was read ahead of a FAULT, or of another text, does not count.
        SilenceMatch x = Texts.made(Texts.FULL);
        Check.tape(x, HEAD + "umpire at 6 deaf 0;");
        due("6 is no CELL here", x.green(), -4);
        due("2", x.fault(0), 2);
        due("its place", x.fault(1), 42 + 10);
        x.end(0);
        Check.tape(x, HEAD + "friends 0 1;");
        due("no PLAYERS here", x.green(), -4);
        due("2", x.fault(0), 2);
        due("its place", x.fault(1), 42 + 8);
    }

    private static void due(String what, long got, long want) {
        Check.due(what, got, want);
    }

    /** "An object is used for at most 512 calls after it has been made": the last of them answers as the first */
    private static void upTo512calls() {
        SilenceMatch x = new SilenceMatch();
        Check.tape(x, Texts.BASE);
        due("green", x.green(), 10);
        int calls = 1 + (Texts.BASE.length() + 19) / 20 + 1 + 1;
        while (calls < 510) {
            due("move", x.move(0, 5), 0);
            due("undo", x.undo(), 0);
            calls += 2;
        }
        while (calls < 511) {
            due("OUT", x.out(3), 10);
            calls++;
        }
        due("the 512th", x.out(0), 8);
    }

    /** FAULTS: "3 a 9th player, 5th umpire, 4th wind, 10th friends, at its word" */
    private static void faultsTooMany() {
        tooMany(HEAD, PLAYER, 8);
        tooMany(HEAD, UMPIRE, 4);
        tooMany(HEAD, WIND, 3);
        tooMany(HEAD + PLAYER + PLAYER, FRIENDS, 9);
        // All are full at once.
        String full = HEAD + PLAYER.repeat(8) + UMPIRE.repeat(4) + WIND.repeat(3) + FRIENDS.repeat(9);
        Texts.made(full);
        for (String line : new String[] {PLAYER, UMPIRE, WIND, FRIENDS}) {
            faulty(full + " " + line, 3, full.length() + 1);
        }
        faulty(full + HEAD, 1, full.length());
    }

    private static void tooMany(String ahead, String line, int most) {
        String full = ahead + line.repeat(most);
        Texts.made(full);
        faulty(full + line, 3, full.length());
        faulty(full + "\n" + line.substring(0, line.indexOf(' ')), 3, full.length() + 1);
        // Its numbers are not looked at.
        faulty(full + line.replaceAll("[0-9]+", "999"), 3, full.length());
    }

    /** 1: "No GREEN." */
    private static void p01noGreen() {
        SilenceMatch x = new SilenceMatch();
        for (int what = 0; what <= 13; what++) {
            Check.due("count " + what, x.count(what), 0);
        }
        Check.due("wins", x.wins(), -2);
        for (int k = 0; k < 3; k++) {
            Check.due("no IMAGE " + k, x.back(k), -6);
        }
        for (int slot = 0; slot < 4; slot++) {
            Check.due("no row in SLOT " + slot, x.write(slot, 0, 0), -6);
        }
        Check.due("an empty TAPE", x.end(1), -1);
        SilenceMatch y = Texts.made(Texts.FULL);
        Check.due("one object's GREEN is not another one's", new SilenceMatch().wins() == -2 && y.wins() == -1 ? 1 : 0, 1);
    }

    /** 2: "Twenty bytes come behind the TAPE .. how many it has" */
    private static void p02howMany() {
        SilenceMatch x = new SilenceMatch();
        Check.due("first", x.feed(-1, -1, -1, -1, -1), 20);
        Check.due("behind it", x.feed(0, 0, 0, 0, 0), 40);
        x.end(1);
        Check.due("behind one", x.feed(0, 0, 0, 0, 0), 21);
        Check.due("count", x.count(12), 21);
        Check.due("the first one is still there", x.green(), -4);
        Check.due("place", x.fault(1), 0);
    }

    /** 2: "four of each number, the highest first", whatever their highest bit */
    private static void p02highestFirst() {
        SilenceMatch x = new SilenceMatch();
        x.feed(0x20202020, 0x20202020, 0x20202020, 0x20202020, 0x2020203f);
        x.green();
        Check.due("the lowest of the last", x.fault(1), 19);
        x.end(0);
        x.feed(0x20202020, 0x20202020, 0x2020ff20, 0x3f202020, 0x20202020);
        x.green();
        Check.due("255 is a byte, and no blank", x.fault(1), 10);
        x.end(0);
        x.feed(0x20202020, 0x20202020, 0xff202020, 0x3f202020, 0x20202020);
        x.green();
        Check.due("the highest of the third", x.fault(1), 8);
        x.end(0);
        x.feed(0x0a0a0a0a, 0x0a0a0a0a, 0x0a0a0a0a, 0x0a0a0a0a, 0x0a0a0a0a);
        Check.due("ten alone is blank", x.green(), 0);
    }

    /** 2: "NONE, and none come, if it would have more than 900" */
    private static void p02beyond900() {
        SilenceMatch x = new SilenceMatch();
        for (int i = 1; i <= 45; i++) {
            Check.due("feed " + i, x.feed(0x20202020, 0x20202020, 0x20202020, 0x20202020, 0x20202020), 20 * i);
        }
        Check.due("a full one", x.feed(-1, -1, -1, -1, -1), -1);
        Check.due("none came", x.count(12), 900);
        for (int n = 881; n < 900; n += 6) {
            x.end(n);
            Check.due("to " + (n + 20), x.feed(-1, -1, -1, -1, -1), -1);
            Check.due("none came", x.count(12), n);
            x.end(880);
            x.feed(0x20202020, 0x20202020, 0x20202020, 0x20202020, 0x20202020);
        }
        x.end(880);
        Check.due("to 900", x.feed(0x20202020, 0x20202020, 0x20202020, 0x20202020, 0x20202020), 900);
        x.end(881);
        x.feed(-1, -1, -1, -1, -1);
        Check.due("nothing of what did not come", x.green(), 0);
    }

    /** 3: "The TAPE has its first n bytes alone: n" */
    private static void p03firstAlone() {
        SilenceMatch x = new SilenceMatch();
        Check.due("of none", x.end(0), 0);
        Check.tape(x, HEAD + "?");
        Check.due("all of them", x.end(43), 43);
        Check.due("count", x.count(12), 43);
        Check.due("one less", x.end(42), 42);
        Check.due("count", x.count(12), 42);
        Check.due("the last one is gone", x.green(), 1);
        Check.tape(x, HEAD);
        Check.due("end", x.end(1), 1);
        Check.due("what was cut does not come again", x.end(2), -1);
        Check.due("feed", x.feed(0x7265656e, 0x20776964, 0x65203f00, 0, 0), 21);
        Check.due("green", x.green(), -4);
        Check.due("behind the first byte", x.fault(1), 11);
        Check.due("none", x.end(0), 0);
        Check.due("count", x.count(12), 0);
    }

    /** 3: "NONE, and nothing happens, if it has not so many, or n is below 0" */
    private static void p03notSoMany() {
        SilenceMatch x = new SilenceMatch();
        Edge.refused("end of an empty one", n -> x.end(n), 0, 0, -1);
        Check.tape(x, HEAD);
        Edge.refused("end", n -> x.end(n), 0, 42, -1);
        Check.due("nothing happened", x.count(12), 42);
        Check.due("nothing happened", x.green(), 1);
        SilenceMatch y = new SilenceMatch();
        Check.tape(y, HEAD + " ".repeat(858));
        Edge.refused("end of a full one", n -> y.end(n), 0, 900, -1);
        Check.due("nothing happened", y.count(12), 900);
        Check.due("all of a full one", y.end(900), 900);
        Check.due("nothing happened", y.green(), 1);
    }

    /** 4: "The TAPE (empty then) is the GREEN" */
    private static void p04emptyThen() {
        SilenceMatch x = new SilenceMatch();
        Check.tape(x, HEAD + " ".repeat(858));
        Check.due("a full TAPE", x.green(), 1);
        Check.due("empty then", x.count(12), 0);
        Check.due("empty then", x.end(1), -1);
        Check.due("there is room", x.feed(0, 0, 0, 0, 0), 20);
    }

    /** 4: "in place of another" */
    private static void p04inPlaceOfAnother() {
        SilenceMatch x = Texts.made(Texts.FULL);
        x.image(1);
        x.row(2, 0, 60);
        Texts.load(x, Texts.TINY);
        int[] counts = {1, 1, 1, 0, 0, 1, 0, 0, 0, 0, 0, 1, 0, 1};
        for (int what = 0; what < counts.length; what++) {
            Check.due("count " + what, x.count(what), counts[what]);
        }
        Check.due("no PLAYER", x.player(0, 0), -2);
        Check.due("no UMPIRE", x.umpire(0, 0), -2);
        Check.due("no WIND", x.wind(1), 0);
        Check.due("no cough", x.coughs(1), 0);
        x.bell(60);
        for (int minute = 1; minute <= 60; minute++) {
            Check.due("no cough", x.coughs(minute), 0);
        }
        Texts.load(x, Texts.FULL);
        Check.due("OUT", x.out(7), 5);
        Texts.load(x, HEAD + PLAYER);
        Check.due("no FRIENDS", x.player(0, 4), 0);
        Check.due("no WIND", x.wind(60), 0);
        Check.due("IMAGES stay", x.back(1), 0);
        Check.due("IMAGES stay", x.count(11), 25);
    }

    /** 4: "nothing done" */
    private static void p04nothingDone() {
        SilenceMatch x = Texts.made(Texts.BASE);
        x.bell(10);
        for (int i = 0; i < 40; i++) {
            x.move(0, 5);
        }
        Texts.load(x, Texts.BASE);
        Check.due("no acts", x.count(10), 0);
        Check.due("none to take back", x.undo(), -5);
        Check.due("as told", x.player(0, 1), 0);
        Check.due("bell as told", x.count(2), 20);
        Check.due("room for acts", x.move(0, 5), 0);
    }

    /** 4: "how many LINES", from one to all that there may be */
    private static void p04lines() {
        SilenceMatch x = new SilenceMatch();
        Check.tape(x, Texts.TINY);
        Check.due("one", x.green(), 1);
        Check.due("count", x.count(11), 1);
        Check.tape(x, Texts.FULL);
        Check.due("all", x.green(), 25);
        Check.due("count", x.count(11), 25);
    }

    /** 4: "0: there is none then" */
    private static void p04none() {
        SilenceMatch x = Texts.made(Texts.FULL);
        x.move(0, 3);
        Check.due("of an empty TAPE", x.green(), 0);
        for (int what = 0; what <= 13; what++) {
            Check.due("count " + what, x.count(what), 0);
        }
        Check.due("no GREEN", x.wins(), -2);
        Check.due("no PLAYER", x.player(0, 0), -2);
        Check.due("no acts", x.undo(), -2);
        Check.due("again", x.green(), 0);
        Texts.load(x, Texts.FULL);
        Check.tape(x, " \n".repeat(450));
        Check.due("of a TAPE full of blanks", x.green(), 0);
        Check.due("empty then", x.count(12), 0);
        Check.due("no GREEN", x.calm(), -2);
        Check.due("no FAULT", x.fault(0), 0);
    }

    /** 4: "-4: a FAULT (all stays)" */
    private static void p04fault() {
        SilenceMatch x = Texts.made(Texts.BASE);
        x.move(0, 3);
        x.image(0);
        x.lozenge(1, 12);
        x.row(0, 0, 2);
        Check.tape(x, Texts.FULL + "?");
        int length = Texts.FULL.length() + 1;
        for (int again = 0; again < 2; again++) {
            Check.due("green", x.green(), -4);
            int[] counts = {3, 2, 20, 2, 1, 6, 4, 2, 1, 2, 2, 10, length, 1};
            for (int what = 0; what < counts.length; what++) {
                Check.due("count " + what + " stays", x.count(what), counts[what]);
            }
            Check.due("place", x.fault(1), length - 1);
        }
        Check.due("coughs stay", x.coughs(20), 3);
        Check.due("WINDS stay", x.wind(10), 0);
        Check.due("OUT stays", x.out(2), 6);
        Check.due("acts stay", x.undo(), 1);
        Check.due("acts stay", x.player(1, 2), 0);
        Check.due("the bytes stay", x.end(length - 1), length - 1);
        Check.due("the bytes stay", x.green(), 25);
        SilenceMatch y = new SilenceMatch();
        Check.tape(y, "?");
        Check.due("without a GREEN", y.green(), -4);
        Check.due("there is still none", y.wins(), -2);
    }

    /** 5: "what 0: its FAULT, 0 without, 1: its place (NONE without)" */
    private static void p05withoutFault() {
        SilenceMatch x = Texts.made(Texts.TINY);
        Check.due("FAULT", x.fault(0), 0);
        Check.due("place", x.fault(1), -1);
        x.green();
        Check.due("FAULT of none", x.fault(0), 0);
        Check.due("place of none", x.fault(1), -1);
    }

    /** 5: "1: its place", from the first byte to the end of a full TAPE */
    private static void p05place() {
        faulty("?", 1, 0);
        faulty("?" + " ".repeat(899), 1, 0);
        faulty("green" + " ".repeat(895), 1, 900);
        faulty(" ".repeat(899) + "?", 1, 899);
        faulty(" ".repeat(895) + "green", 1, 900);
    }

    /** 5: "NONE for another what" */
    private static void p05otherWhat() {
        SilenceMatch x = new SilenceMatch();
        Edge.of("ahead of any", n -> x.fault(n), 0, 0, 1, -1, -1);
        Check.tape(x, "  ?");
        x.green();
        Edge.of("with a FAULT", n -> x.fault(n), 0, 1, 1, 2, -1);
        Texts.load(x, Texts.TINY);
        Edge.of("without", n -> x.fault(n), 0, 0, 1, -1, -1);
    }

    /** 5: "and ahead of any (what 1)" */
    private static void p05aheadOfAny() {
        SilenceMatch x = new SilenceMatch();
        Check.due("what 1", x.fault(1), -1);
        Check.tape(x, "?");
        Check.due("what 1, not read yet", x.fault(1), -1);
        Check.due("what 0, not read yet", x.fault(0), 0);
    }

    /** 5: "Of the latest green()" */
    private static void p05latest() {
        SilenceMatch x = Texts.made(Texts.BASE);
        x.image(0);
        Check.tape(x, "green wide 6");
        x.green();
        x.end(0);
        x.back(0);
        x.move(0, 1);
        Check.tape(x, HEAD);
        Check.due("not the TAPE's", x.fault(0), 2);
        Check.due("not the TAPE's", x.fault(1), 11);
        x.green();
        Check.due("none any more", x.fault(0), 0);
        Check.due("none any more", x.fault(1), -1);
        Check.tape(x, "?");
        x.green();
        Check.due("another one", x.fault(0), 1);
        Check.due("another one", x.fault(1), 0);
    }
}
