/** Umpires of silence: see ../shared/DOC.md, whose promises and terms the comments here name. */
public final class SilenceMatch {
    public static final int NONE = -1;

    private static final int ABSENT = -2;
    private static final int NEGATIVE = -3;
    private static final int FAULTY = -4;
    private static final int BARRED = -5;
    private static final int EMPTY = -6;
    private static final int BEYOND = -7;
    private static final int UNLIKE = -8;
    private static final int NO_GAIN = -1000;

    private static final int TAPE_LIMIT = 900;
    private static final int FEED_BYTES = 20;
    private static final int WIDE_LIMIT = 5;
    private static final int HIGH_LIMIT = 4;
    private static final int CELL_LIMIT = 20;
    private static final int PLAYER_LIMIT = 8;
    private static final int UMPIRE_LIMIT = 4;
    private static final int WIND_LIMIT = 3;
    private static final int FRIENDS_LIMIT = 9;
    private static final int LINE_LIMIT = 25;
    private static final int LOUDEST = 12;
    private static final int DEAFEST = 9;
    private static final int LAST_MINUTE = 60;
    private static final int ODDS_WHOLE = 10;
    private static final int ACT_LIMIT = 40;
    private static final int IMAGE_LIMIT = 3;
    private static final int SLOT_LIMIT = 4;
    private static final int ROW_LIMIT = 60;
    private static final int WIDEST = 3;
    private static final int SEED_LIMIT = 2000000000;
    private static final int LUCK_LIMIT = 20;

    private final Tape tape;
    private final Reader reader;
    private final Green green;
    private final Green draft;
    private final Green trial;
    private final Acts acts;
    private final Match match;
    private final Cover cover;
    private final Heard heard;
    private final Row[] rows;
    private final Green[] imageGreens;
    private final Acts[] imageActs;
    private final boolean[] imageKept;

    public SilenceMatch() {
        tape = new Tape();
        reader = new Reader(tape);
        green = new Green();
        draft = new Green();
        trial = new Green();
        acts = new Acts();
        match = new Match();
        cover = new Cover();
        heard = new Heard();
        rows = new Row[SLOT_LIMIT];
        for (int slot = 0; slot < SLOT_LIMIT; slot++) {
            rows[slot] = new Row();
        }
        imageGreens = new Green[IMAGE_LIMIT];
        imageActs = new Acts[IMAGE_LIMIT];
        imageKept = new boolean[IMAGE_LIMIT];
        for (int k = 0; k < IMAGE_LIMIT; k++) {
            imageGreens[k] = new Green();
            imageActs[k] = new Acts();
        }
    }

    // ---- the TAPE and the GREEN (promises 2 to 5)

    public int feed(int a, int b, int c, int d, int e) {
        if (tape.size + FEED_BYTES > TAPE_LIMIT) {
            return NONE;
        }
        tape.put(a);
        tape.put(b);
        tape.put(c);
        tape.put(d);
        tape.put(e);
        return tape.size;
    }

    public int end(int n) {
        if (n < 0 || n > tape.size) {
            return NONE;
        }
        tape.size = n;
        return n;
    }

    public int green() {
        reader.readGreen(draft);
        // By a FAULT all stays, the TAPE too: end() can cut it at the FAULT's place, and more be fed.
        if (reader.fault != 0) {
            return FAULTY;
        }
        tape.size = 0;
        green.copyFrom(draft);
        acts.count = 0;
        match.learn(green);
        return green.lines;
    }

    public int fault(int what) {
        if (what == 0) {
            return reader.fault;
        }
        return what == 1 ? reader.faultPlace : NONE;
    }

    // ---- what is on the GREEN (promises 6 to 13, 24, 25)

    public int player(int player, int what) {
        if (!green.hasPlayer(player)) {
            return ABSENT;
        }
        switch (what) {
            case 0:
                return green.side[player];
            case 1:
                return green.cell[player];
            case 2:
                return green.loud[player];
            case 3:
                return green.every[player];
            case 4:
                return green.friendsOf(1 << player, 0);
            default:
                return ABSENT;
        }
    }

    public int umpire(int umpire, int what) {
        if (!green.hasUmpire(umpire)) {
            return ABSENT;
        }
        if (what == 0) {
            return green.post[umpire];
        }
        return what == 1 ? green.deaf[umpire] : ABSENT;
    }

    public int far(int cell, int other) {
        if (!green.hasCell(cell) || !green.hasCell(other)) {
            return ABSENT;
        }
        return green.distance(cell, other);
    }

    public int wind(int minute) {
        if (!green.exists() || minute < 1 || minute > LAST_MINUTE) {
            return ABSENT;
        }
        return match.windy[minute] ? 1 : 0;
    }

    public int ears(int cell, int loud) {
        if (!green.hasCell(cell) || !isLoudness(loud)) {
            return ABSENT;
        }
        return green.hearers(cell, loud);
    }

    public int dead(int loud) {
        if (!green.exists() || !isLoudness(loud)) {
            return ABSENT;
        }
        return bitsBelow(green.cells()) & ~green.heardCells(loud);
    }

    public int quiet(int cell) {
        if (!green.hasCell(cell)) {
            return ABSENT;
        }
        int loud = LOUDEST;
        while (loud > 0 && green.hearers(cell, loud) != 0) {
            loud--;
        }
        return loud;
    }

    public int coughs(int minute) {
        return isMinute(minute) ? match.coughing[minute] : ABSENT;
    }

    public int crowd(int cell) {
        if (!green.hasCell(cell)) {
            return ABSENT;
        }
        int bits = 0;
        for (int p = 0; p < green.players; p++) {
            if (green.cell[p] == cell) {
                bits |= 1 << p;
            }
        }
        return bits;
    }

    public int near(int player) {
        if (!green.hasPlayer(player)) {
            return ABSENT;
        }
        int nearest = NONE;
        int least = CELL_LIMIT;
        for (int u = 0; u < green.umpires; u++) {
            int steps = green.distance(green.post[u], green.cell[player]);
            if (steps < least) {
                least = steps;
                nearest = u;
            }
        }
        return nearest;
    }

    // ---- the MATCH as it is (promises 14 to 23, 26 to 29)

    public int out(int player) {
        if (!green.hasPlayer(player)) {
            return ABSENT;
        }
        match.play(green, green.bell);
        return match.minuteOut(player);
    }

    public int outs(int minute) {
        if (!isMinute(minute)) {
            return ABSENT;
        }
        match.play(green, green.bell);
        return match.outsIn(minute);
    }

    public int laughs(int minute) {
        if (!isMinute(minute)) {
            return ABSENT;
        }
        match.play(green, green.bell);
        return match.laughing[minute];
    }

    public int finger(int player) {
        if (!green.hasPlayer(player)) {
            return ABSENT;
        }
        match.play(green, green.bell);
        return match.firstHearer(green, player);
    }

    public int fingers(int umpire) {
        if (!green.hasUmpire(umpire)) {
            return ABSENT;
        }
        match.play(green, green.bell);
        int count = 0;
        for (int p = 0; p < green.players; p++) {
            if (match.firstHearer(green, p) == umpire) {
                count++;
            }
        }
        return count;
    }

    public int score(int side, int minute) {
        if (!isSide(side) || minute < 0 || minute > green.bell) {
            return ABSENT;
        }
        match.play(green, green.bell);
        return match.scoreAt(green, side, minute);
    }

    public int wins() {
        if (!green.exists()) {
            return ABSENT;
        }
        match.play(green, green.bell);
        return winner();
    }

    public int leads() {
        if (!green.exists()) {
            return ABSENT;
        }
        match.play(green, green.bell);
        int side = winner();
        if (side == NONE) {
            return NONE;
        }
        int first = green.bell;
        while (first > 0 && match.lead(green, side, first - 1) > 0) {
            first--;
        }
        return first;
    }

    public int last() {
        if (!green.exists()) {
            return ABSENT;
        }
        match.play(green, green.bell);
        int latest = NONE;
        for (int minute = 1; minute <= green.bell; minute++) {
            if (match.outsIn(minute) != 0) {
                latest = minute;
            }
        }
        return latest;
    }

    public int tries(int minute) {
        if (!isMinute(minute)) {
            return ABSENT;
        }
        match.play(green, green.bell);
        return match.coughing[minute] & match.still[minute - 1];
    }

    public int gone(int side) {
        if (!isSide(side)) {
            return ABSENT;
        }
        match.play(green, green.bell);
        for (int minute = 0; minute <= green.bell; minute++) {
            if (match.scoreAt(green, side, minute) == 0) {
                return minute;
            }
        }
        return NONE;
    }

    public int calm() {
        if (!green.exists()) {
            return ABSENT;
        }
        match.play(green, green.bell);
        int most = 0;
        int run = 0;
        for (int minute = 1; minute <= green.bell; minute++) {
            run = match.outsIn(minute) == 0 ? run + 1 : 0;
            most = Math.max(most, run);
        }
        return most;
    }

    public int chain() {
        if (!green.exists()) {
            return ABSENT;
        }
        match.play(green, green.bell);
        int most = 0;
        int run = 0;
        for (int minute = 1; minute <= green.bell; minute++) {
            run = match.laughing[minute] != 0 ? run + 1 : 0;
            most = Math.max(most, run);
        }
        return most;
    }

    public int bells(int side) {
        if (!isSide(side)) {
            return ABSENT;
        }
        match.play(green, LAST_MINUTE);
        for (int minute = 1; minute <= LAST_MINUTE; minute++) {
            if (match.lead(green, side, minute) > 0) {
                return minute;
            }
        }
        return NONE;
    }

    // ---- the MATCH otherwise (promises 30, 31, 33 to 38, 45, 51 to 54)

    public int fire() {
        if (!green.exists()) {
            return ABSENT;
        }
        int fewest = outsWithout(0, 0);
        int answer = NONE;
        for (int u = 0; u < green.umpires; u++) {
            int count = outsWithout(1 << u, 0);
            if (count < fewest) {
                fewest = count;
                answer = u;
            }
        }
        return answer;
    }

    public int grudge() {
        if (!green.exists()) {
            return ABSENT;
        }
        int fewest = outsWithout(0, 0);
        int answer = NONE;
        for (int pair = 0; pair < green.pairs; pair++) {
            int count = outsWithout(0, 1 << pair);
            if (count < fewest) {
                fewest = count;
                answer = pair;
            }
        }
        return answer;
    }

    public int swap(int side) {
        if (!isSide(side)) {
            return ABSENT;
        }
        match.play(green, green.bell);
        int most = match.lead(green, side, green.bell);
        int answer = NONE;
        for (int one = 0; one < green.players; one++) {
            for (int two = one + 1; two < green.players; two++) {
                if (green.side[one] == side && green.side[two] == side) {
                    int lead = leadSwapped(one, two);
                    if (lead > most) {
                        most = lead;
                        answer = 10 * one + two;
                    }
                }
            }
        }
        return answer;
    }

    public int safe(int player) {
        if (!green.hasPlayer(player)) {
            return ABSENT;
        }
        int bits = 0;
        for (int cell = 0; cell < green.cells(); cell++) {
            playMoved(player, cell);
            if (match.minuteOut(player) == NONE) {
                bits |= 1 << cell;
            }
        }
        return bits;
    }

    public int place(int player) {
        return green.hasPlayer(player) ? latestCell(player) : ABSENT;
    }

    public int lasts(int player) {
        if (!green.hasPlayer(player)) {
            return ABSENT;
        }
        playMoved(player, latestCell(player));
        return match.minuteOut(player);
    }

    public int best(int player) {
        return green.hasPlayer(player) ? bestCell(player) : ABSENT;
    }

    public int gains(int player) {
        if (!green.hasPlayer(player)) {
            return NO_GAIN;
        }
        playMoved(player, bestCell(player));
        return match.lead(green, green.side[player], green.bell);
    }

    public int hush(int player) {
        if (!green.hasPlayer(player)) {
            return ABSENT;
        }
        trial.copyFrom(green);
        for (int loud = LOUDEST; loud >= 0; loud--) {
            trial.loud[player] = loud;
            match.play(trial, green.bell);
            if (match.minuteOut(player) == NONE) {
                return loud;
            }
        }
        return NONE;
    }

    public int even() {
        return green.exists() ? Integer.bitCount(evenRest()) : ABSENT;
    }

    public int evens() {
        return green.exists() ? evenRest() : ABSENT;
    }

    public int without(int set, int side) {
        if (!isSide(side) || set < 0 || set > bitsBelow(green.players)) {
            return ABSENT;
        }
        match.playWithout(green, set, 0, 0);
        return match.scoreAt(green, side, green.bell);
    }

    public int drop(int side) {
        if (!isSide(side)) {
            return ABSENT;
        }
        match.play(green, green.bell);
        int most = match.scoreAt(green, side, green.bell);
        int answer = NONE;
        for (int p = 0; p < green.players; p++) {
            if (green.side[p] == side) {
                match.playWithout(green, 1 << p, 0, 0);
                int count = match.scoreAt(green, side, green.bell);
                if (count > most) {
                    most = count;
                    answer = p;
                }
            }
        }
        return answer;
    }

    // ---- COVER (promises 39 to 41)

    public int cover(int deaf, int loud) {
        if (!areCoverTerms(deaf, loud)) {
            return ABSENT;
        }
        cover.search(green, loud - deaf);
        return cover.size;
    }

    public int covers(int deaf, int loud, int i) {
        if (!areCoverTerms(deaf, loud)) {
            return ABSENT;
        }
        cover.search(green, loud - deaf);
        return i >= 0 && i < cover.size ? cover.chosen[i] : NONE;
    }

    public int more(int deaf, int loud) {
        if (!areCoverTerms(deaf, loud)) {
            return ABSENT;
        }
        int unheard = bitsBelow(green.cells()) & ~green.heardCells(loud);
        int most = 0;
        int answer = NONE;
        for (int cell = 0; cell < green.cells(); cell++) {
            int count = Integer.bitCount(green.around(cell, loud - deaf) & unheard);
            if (count > most) {
                most = count;
                answer = cell;
            }
        }
        return answer;
    }

    // ---- FRIENDS (promises 32, 42 to 44)

    public int groups() {
        if (!green.exists()) {
            return ABSENT;
        }
        int seen = 0;
        int count = 0;
        for (int p = 0; p < green.players; p++) {
            if ((seen >> p & 1) == 0) {
                seen |= green.reach(p, 0);
                count++;
            }
        }
        return count;
    }

    public int spread(int player) {
        return green.hasPlayer(player) ? green.reach(player, 0) : ABSENT;
    }

    public int part(int player, int other) {
        if (!green.hasPlayer(player) || !green.hasPlayer(other)) {
            return ABSENT;
        }
        return player == other ? NONE : Integer.bitCount(leastCut(player, other));
    }

    public int parts(int player, int other) {
        if (!green.hasPlayer(player) || !green.hasPlayer(other)) {
            return ABSENT;
        }
        return player == other ? NONE : leastCut(player, other);
    }

    // ---- HEARD (promises 46 to 50)

    public int fits(int slot) {
        int refusal = listen(slot);
        return refusal != 0 ? refusal : heard.total();
    }

    public int spots(int slot) {
        int refusal = listen(slot);
        return refusal != 0 ? refusal : heard.cellBits();
    }

    public int who(int slot) {
        int refusal = listen(slot);
        return refusal != 0 ? refusal : heard.coughers(green);
    }

    public int ask(int slot) {
        int refusal = listen(slot);
        return refusal != 0 ? refusal : heard.askedCell(green);
    }

    public int leaves(int slot) {
        int refusal = listen(slot);
        if (refusal != 0) {
            return refusal;
        }
        int cell = heard.askedCell(green);
        return cell == NONE ? heard.total() : heard.worstOf(green, cell);
    }

    // ---- CHANCE (promises 55 to 57)

    public long chance(int player, int what) {
        if (!green.hasPlayer(player) || what < 0 || what > 1) {
            return ABSENT;
        }
        int above = ODDS_WHOLE - green.odds;
        int below = ODDS_WHOLE;
        for (int divisor = ODDS_WHOLE; divisor > 1; divisor--) {
            if (above % divisor == 0 && below % divisor == 0) {
                above /= divisor;
                below /= divisor;
            }
        }
        int risks = match.risks(green, player, green.bell);
        return what == 0 ? power(above, risks) : power(below, risks);
    }

    public int surest(int side) {
        if (!isSide(side)) {
            return ABSENT;
        }
        int least = LAST_MINUTE + 1;
        int answer = NONE;
        for (int p = 0; p < green.players; p++) {
            if (green.side[p] == side && danger(p) < least) {
                least = danger(p);
                answer = p;
            }
        }
        return answer;
    }

    public int sure(int player, int p) {
        if (!green.hasPlayer(player) || p < 0 || p > 100) {
            return ABSENT;
        }
        int minute = green.bell;
        while (minute > 0 && !isLikely(match.risks(green, player, minute), p)) {
            minute--;
        }
        return minute;
    }

    // ---- acts (promises 58 to 61, 64)

    public int move(int player, int cell) {
        if (!green.hasPlayer(player) || !green.hasCell(cell)) {
            return ABSENT;
        }
        if (acts.count >= ACT_LIMIT) {
            return BARRED;
        }
        int was = green.cell[player];
        acts.add(false, player, was);
        green.cell[player] = cell;
        return was;
    }

    public int lozenge(int player, int n) {
        if (!green.hasPlayer(player) || !isLoudness(n)) {
            return ABSENT;
        }
        if (acts.count >= ACT_LIMIT) {
            return BARRED;
        }
        int was = green.loud[player];
        acts.add(true, player, was);
        green.loud[player] = n;
        return was;
    }

    public int undo() {
        if (!green.exists()) {
            return ABSENT;
        }
        if (acts.count == 0) {
            return BARRED;
        }
        acts.takeBack(green);
        return acts.count;
    }

    public int anew() {
        if (!green.exists()) {
            return ABSENT;
        }
        int count = acts.count;
        for (int act = 0; act < count; act++) {
            acts.takeBack(green);
        }
        return count;
    }

    public int bell(int n) {
        if (!green.exists() || n < 1 || n > LAST_MINUTE) {
            return ABSENT;
        }
        if (acts.count != 0) {
            return BARRED;
        }
        int was = green.bell;
        green.bell = n;
        return was;
    }

    // ---- DRAWS (promises 62, 63)

    public int drawn(int seed, int what) {
        if (!green.exists() || seed < 0 || seed > SEED_LIMIT) {
            return ABSENT;
        }
        if (what < 0 || what > 2) {
            return ABSENT;
        }
        match.playDrawn(green, seed);
        if (what == 0) {
            return match.allOuts(green.bell);
        }
        return what == 1 ? winner() : match.draws.count;
    }

    public int luck(int seed, int n, int player) {
        if (!green.hasPlayer(player) || seed < 0 || seed > SEED_LIMIT) {
            return ABSENT;
        }
        if (n < 1 || n > LUCK_LIMIT) {
            return ABSENT;
        }
        int count = 0;
        for (int i = 0; i < n; i++) {
            match.playDrawn(green, seed + i);
            if (match.minuteOut(player) == NONE) {
                count++;
            }
        }
        return count;
    }

    // ---- counts and IMAGES (promises 65 to 67)

    public int count(int what) {
        switch (what) {
            case 0:
                return green.wide;
            case 1:
                return green.high;
            case 2:
                return green.bell;
            case 3:
                return green.laugh;
            case 4:
                return green.odds;
            case 5:
                return green.cells();
            case 6:
                return green.players;
            case 7:
                return green.umpires;
            case 8:
                return green.winds;
            case 9:
                return green.pairs;
            case 10:
                return acts.count;
            case 11:
                return green.lines;
            case 12:
                return tape.size;
            case 13:
                return filledSlots();
            default:
                return NONE;
        }
    }

    public int image(int k) {
        if (!isImage(k)) {
            return ABSENT;
        }
        imageGreens[k].copyFrom(green);
        imageActs[k].copyFrom(acts);
        imageKept[k] = true;
        return 0;
    }

    public int back(int k) {
        if (!isImage(k)) {
            return ABSENT;
        }
        if (!imageKept[k]) {
            return EMPTY;
        }
        green.copyFrom(imageGreens[k]);
        acts.copyFrom(imageActs[k]);
        match.learn(green);
        return 0;
    }

    // ---- SLOTS (promises 68 to 70)

    public int row(int slot, int width, int n) {
        if (!isSlot(slot) || width < 0 || width > WIDEST || n > ROW_LIMIT) {
            return ABSENT;
        }
        if (n < 0) {
            return NEGATIVE;
        }
        rows[slot].renew(width, n);
        return 0;
    }

    public int write(int slot, int i, long v) {
        if (!isSlot(slot)) {
            return ABSENT;
        }
        Row row = rows[slot];
        if (row.width == NONE) {
            return EMPTY;
        }
        if (i < 0 || i >= row.size) {
            return BEYOND;
        }
        row.numbers[i] = row.cut(v);
        return 0;
    }

    public int paste(int slot, int i, int to, int k, int n) {
        if (!isSlot(slot) || !isSlot(to)) {
            return ABSENT;
        }
        Row source = rows[slot];
        Row target = rows[to];
        if (source.width == NONE || target.width == NONE) {
            return EMPTY;
        }
        if (source.width != target.width) {
            return UNLIKE;
        }
        if (!source.hasRange(i, n) || !target.hasRange(k, n)) {
            return BEYOND;
        }
        System.arraycopy(source.numbers, i, target.numbers, k, n);
        return 0;
    }

    // ---- what may be asked

    private static boolean isLoudness(int loud) {
        return loud >= 0 && loud <= LOUDEST;
    }

    private static boolean isSlot(int slot) {
        return slot >= 0 && slot < SLOT_LIMIT;
    }

    private static boolean isImage(int k) {
        return k >= 0 && k < IMAGE_LIMIT;
    }

    private boolean isSide(int side) {
        return green.exists() && (side == 0 || side == 1);
    }

    private boolean isMinute(int minute) {
        return green.exists() && minute >= 1 && minute <= green.bell;
    }

    private boolean areCoverTerms(int deaf, int loud) {
        return green.exists() && deaf >= 0 && deaf <= DEAFEST && loud >= 1 && loud <= LOUDEST;
    }

    // ---- what the promises share

    private static int bitsBelow(int count) {
        return (1 << count) - 1;
    }

    private static long power(int base, int exponent) {
        long product = 1;
        for (int i = 0; i < exponent; i++) {
            product *= base;
        }
        return product;
    }

    private int winner() {
        int lead = match.lead(green, 0, green.bell);
        if (lead == 0) {
            return NONE;
        }
        return lead > 0 ? 0 : 1;
    }

    private int outsWithout(int fired, int parted) {
        match.playWithout(green, 0, fired, parted);
        return Integer.bitCount(match.allOuts(green.bell));
    }

    private int leadSwapped(int one, int two) {
        trial.copyFrom(green);
        trial.cell[one] = green.cell[two];
        trial.cell[two] = green.cell[one];
        match.play(trial, green.bell);
        return match.lead(green, green.side[one], green.bell);
    }

    private void playMoved(int player, int cell) {
        trial.copyFrom(green);
        trial.cell[player] = cell;
        match.play(trial, green.bell);
    }

    private int latestCell(int player) {
        int latest = 0;
        int answer = 0;
        for (int cell = 0; cell < green.cells(); cell++) {
            playMoved(player, cell);
            int minute = match.minuteOut(player);
            if (minute == NONE) {
                return cell;
            }
            if (minute > latest) {
                latest = minute;
                answer = cell;
            }
        }
        return answer;
    }

    private int bestCell(int player) {
        int most = NO_GAIN;
        int answer = 0;
        for (int cell = 0; cell < green.cells(); cell++) {
            playMoved(player, cell);
            int lead = match.lead(green, green.side[player], green.bell);
            if (lead > most) {
                most = lead;
                answer = cell;
            }
        }
        return answer;
    }

    /** The least of the smallest sets at REST by which both SCORES are alike; all at REST always are. */
    private int evenRest() {
        int fewest = PLAYER_LIMIT + 1;
        int answer = 0;
        for (int set = 0; set <= bitsBelow(green.players); set++) {
            if (Integer.bitCount(set) < fewest && isEvenWithout(set)) {
                fewest = Integer.bitCount(set);
                answer = set;
            }
        }
        return answer;
    }

    private boolean isEvenWithout(int set) {
        match.playWithout(green, set, 0, 0);
        return match.lead(green, 0, green.bell) == 0;
    }

    /** The least of the smallest sets of pairs without which one does not reach the other. */
    private int leastCut(int player, int other) {
        int fewest = FRIENDS_LIMIT + 1;
        int answer = 0;
        for (int set = 0; set <= bitsBelow(green.pairs); set++) {
            if (Integer.bitCount(set) < fewest && (green.reach(player, set) >> other & 1) == 0) {
                fewest = Integer.bitCount(set);
                answer = set;
            }
        }
        return answer;
    }

    /** Gathers what fits a SLOT's row: 0, or why it can't be. */
    private int listen(int slot) {
        if (!isSlot(slot) || !green.exists()) {
            return ABSENT;
        }
        Row row = rows[slot];
        if (row.width == NONE) {
            return EMPTY;
        }
        if (!row.tellsEars(green.umpires)) {
            return ABSENT;
        }
        heard.gather(green, row);
        return 0;
    }

    /** Orders PLAYERS by their CHANCE, the greatest first: by odds 0 and 10 many are alike. */
    private int danger(int player) {
        int risks = match.risks(green, player, green.bell);
        if (green.odds == 0) {
            return 0;
        }
        return green.odds == ODDS_WHOLE ? Math.min(risks, 1) : risks;
    }

    /** No overflow: a PLAYER coughs at most 15 times, so 10 to that power, times 100, fits a long. */
    private boolean isLikely(int risks, int p) {
        return 100 * power(ODDS_WHOLE - green.odds, risks) >= p * power(ODDS_WHOLE, risks);
    }

    private int filledSlots() {
        int count = 0;
        for (int slot = 0; slot < SLOT_LIMIT; slot++) {
            if (rows[slot].width != NONE) {
                count++;
            }
        }
        return count;
    }

    /** The bytes that were fed and not yet read. */
    private static final class Tape {
        final int[] bytes = new int[TAPE_LIMIT];
        int size;

        void put(int number) {
            for (int shift = 24; shift >= 0; shift -= 8) {
                if (size < TAPE_LIMIT) {
                    bytes[size] = number >> shift & 255;
                    size++;
                }
            }
        }

        int byteAt(int place) {
            return place >= 0 && place < size ? bytes[place] : 0;
        }
    }

    /** Reads a TAPE, TOKEN by TOKEN, into a GREEN; stops at the first FAULT. */
    private static final class Reader {
        private static final int END = 0;
        private static final int WORD = 1;
        private static final int NUMBER = 2;
        private static final int SIGN = 3;
        private static final int STRANGE = 4;
        private static final int MISPLACED = 1;
        private static final int OUT_OF_BOUNDS = 2;
        private static final int TOO_MANY = 3;
        private static final int CAP = 1000;

        int fault = 0;
        int faultPlace = NONE;
        private final Tape source;
        private int kind = END;
        private int place = 0;
        private int stop = 0;

        Reader(Tape tape) {
            source = tape;
        }

        void readGreen(Green target) {
            fault = 0;
            faultPlace = NONE;
            stop = 0;
            target.clear();
            advance();
            for (int line = 0; line <= LINE_LIMIT && fault == 0 && kind != END; line++) {
                readLine(target);
                target.lines++;
            }
        }

        private void readLine(Green target) {
            if (target.lines == 0) {
                readHead(target);
            } else if (isWord("player")) {
                readPlayer(target);
            } else if (isWord("umpire")) {
                readUmpire(target);
            } else if (isWord("wind")) {
                readWind(target);
            } else if (isWord("friends")) {
                readFriends(target);
            } else {
                fail(MISPLACED);
            }
            takeSign();
        }

        private void readHead(Green target) {
            takeWord("green");
            target.wide = takeNumber("wide", 1, WIDE_LIMIT);
            target.high = takeNumber("high", 1, HIGH_LIMIT);
            target.bell = takeNumber("bell", 1, LAST_MINUTE);
            target.laugh = takeNumber("laugh", 0, LOUDEST);
            target.odds = takeNumber("odds", 0, ODDS_WHOLE);
        }

        private void readPlayer(Green target) {
            int p = target.players;
            if (!hasRoom(p, PLAYER_LIMIT)) {
                return;
            }
            takeWord("player");
            target.side[p] = takeNumber("on", 0, 1);
            target.cell[p] = takeNumber("at", 0, target.cells() - 1);
            target.loud[p] = takeNumber("loud", 0, LOUDEST);
            target.every[p] = takeNumber("every", 4, 30);
            target.players = p + 1;
        }

        private void readUmpire(Green target) {
            int u = target.umpires;
            if (!hasRoom(u, UMPIRE_LIMIT)) {
                return;
            }
            takeWord("umpire");
            target.post[u] = takeNumber("at", 0, target.cells() - 1);
            target.deaf[u] = takeNumber("deaf", 0, DEAFEST);
            target.umpires = u + 1;
        }

        private void readWind(Green target) {
            int w = target.winds;
            if (!hasRoom(w, WIND_LIMIT)) {
                return;
            }
            takeWord("wind");
            target.from[w] = takeNumber("from", 1, LAST_MINUTE);
            target.to[w] = takeNumber("to", target.from[w], LAST_MINUTE);
            target.winds = w + 1;
        }

        private void readFriends(Green target) {
            int pair = target.pairs;
            if (!hasRoom(pair, FRIENDS_LIMIT)) {
                return;
            }
            takeWord("friends");
            target.one[pair] = takeValue(0, target.players - 1, NONE);
            target.two[pair] = takeValue(0, target.players - 1, target.one[pair]);
            target.pairs = pair + 1;
        }

        private boolean hasRoom(int count, int limit) {
            if (count >= limit) {
                fail(TOO_MANY);
            }
            return count < limit;
        }

        private void takeWord(String word) {
            if (isWord(word)) {
                advance();
            } else {
                fail(MISPLACED);
            }
        }

        private void takeSign() {
            if (kind == SIGN) {
                advance();
            } else {
                fail(MISPLACED);
            }
        }

        private int takeNumber(String word, int low, int high) {
            takeWord(word);
            return takeValue(low, high, NONE);
        }

        private int takeValue(int low, int high, int unlike) {
            if (kind != NUMBER) {
                fail(MISPLACED);
                return low;
            }
            int value = valueOf();
            if (value < low || value > high || value == unlike) {
                fail(OUT_OF_BOUNDS);
                return low;
            }
            advance();
            return value;
        }

        private boolean isWord(String word) {
            if (kind != WORD || stop - place != word.length()) {
                return false;
            }
            for (int i = 0; i < word.length(); i++) {
                if (source.byteAt(place + i) != word.charAt(i)) {
                    return false;
                }
            }
            return true;
        }

        /** Capped: every bound lies far below, and many digits must not wrap around into it. */
        private int valueOf() {
            int value = 0;
            for (int at = place; at < stop; at++) {
                value = Math.min(CAP, 10 * value + source.byteAt(at) - '0');
            }
            return value;
        }

        /** The first one counts; after it no TOKEN is taken, so that the place stays. */
        private void fail(int which) {
            if (fault == 0) {
                fault = which;
                faultPlace = place;
            }
        }

        private void advance() {
            if (fault != 0) {
                return;
            }
            int at = stop;
            while (at < source.size && isBlank(source.byteAt(at))) {
                at++;
            }
            place = at;
            kind = at < source.size ? kindOf(source.byteAt(at)) : END;
            if (at < source.size) {
                at++;
            }
            while (at < source.size && (kind == WORD || kind == NUMBER) && kindOf(source.byteAt(at)) == kind) {
                at++;
            }
            stop = at;
        }

        private static boolean isBlank(int sign) {
            return sign == 32 || sign == 10;
        }

        private static int kindOf(int sign) {
            if (sign >= 'a' && sign <= 'z') {
                return WORD;
            }
            if (sign >= '0' && sign <= '9') {
                return NUMBER;
            }
            return sign == ';' ? SIGN : STRANGE;
        }
    }

    /** GREEN (I) as it is now: what acts change (CELLS, louds) is changed here. */
    private static final class Green {
        int lines;
        int wide;
        int high;
        int bell;
        int laugh;
        int odds;
        int players;
        int umpires;
        int winds;
        int pairs;
        final int[] side = new int[PLAYER_LIMIT];
        final int[] cell = new int[PLAYER_LIMIT];
        final int[] loud = new int[PLAYER_LIMIT];
        final int[] every = new int[PLAYER_LIMIT];
        final int[] post = new int[UMPIRE_LIMIT];
        final int[] deaf = new int[UMPIRE_LIMIT];
        final int[] from = new int[WIND_LIMIT];
        final int[] to = new int[WIND_LIMIT];
        final int[] one = new int[FRIENDS_LIMIT];
        final int[] two = new int[FRIENDS_LIMIT];

        void clear() {
            lines = 0;
            wide = 0;
            high = 0;
            bell = 0;
            laugh = 0;
            odds = 0;
            players = 0;
            umpires = 0;
            winds = 0;
            pairs = 0;
        }

        void copyFrom(Green other) {
            lines = other.lines;
            wide = other.wide;
            high = other.high;
            bell = other.bell;
            laugh = other.laugh;
            odds = other.odds;
            players = other.players;
            umpires = other.umpires;
            winds = other.winds;
            pairs = other.pairs;
            System.arraycopy(other.side, 0, side, 0, PLAYER_LIMIT);
            System.arraycopy(other.cell, 0, cell, 0, PLAYER_LIMIT);
            System.arraycopy(other.loud, 0, loud, 0, PLAYER_LIMIT);
            System.arraycopy(other.every, 0, every, 0, PLAYER_LIMIT);
            System.arraycopy(other.post, 0, post, 0, UMPIRE_LIMIT);
            System.arraycopy(other.deaf, 0, deaf, 0, UMPIRE_LIMIT);
            System.arraycopy(other.from, 0, from, 0, WIND_LIMIT);
            System.arraycopy(other.to, 0, to, 0, WIND_LIMIT);
            System.arraycopy(other.one, 0, one, 0, FRIENDS_LIMIT);
            System.arraycopy(other.two, 0, two, 0, FRIENDS_LIMIT);
        }

        boolean exists() {
            return lines > 0;
        }

        int cells() {
            return wide * high;
        }

        boolean hasCell(int number) {
            return number >= 0 && number < cells();
        }

        boolean hasPlayer(int number) {
            return number >= 0 && number < players;
        }

        boolean hasUmpire(int number) {
            return number >= 0 && number < umpires;
        }

        /** FAR (II). */
        int distance(int here, int there) {
            if (wide < 1) {
                return 0;
            }
            int rows = here / wide - there / wide;
            int columns = here % wide - there % wide;
            return (rows < 0 ? -rows : rows) + (columns < 0 ? -columns : columns);
        }

        /** UMPIRES who HEAR (II) a sound in no WIND, as bits. */
        int hearers(int place, int loudness) {
            int bits = 0;
            for (int u = 0; u < umpires; u++) {
                if (loudness > 0 && loudness >= distance(post[u], place) + deaf[u]) {
                    bits |= 1 << u;
                }
            }
            return bits;
        }

        int heardCells(int loudness) {
            int bits = 0;
            for (int place = 0; place < cells(); place++) {
                if (hearers(place, loudness) != 0) {
                    bits |= 1 << place;
                }
            }
            return bits;
        }

        /** CELLS at most so many steps from one, as bits; none if there are below 0 steps. */
        int around(int place, int steps) {
            int bits = 0;
            for (int there = 0; there < cells(); there++) {
                if (distance(place, there) <= steps) {
                    bits |= 1 << there;
                }
            }
            return bits;
        }

        int sideBits(int which) {
            int bits = 0;
            for (int p = 0; p < players; p++) {
                if (side[p] == which) {
                    bits |= 1 << p;
                }
            }
            return bits;
        }

        /** FRIENDS of any of a set of PLAYERS, by pairs that are not parted, as bits. */
        int friendsOf(int set, int parted) {
            int bits = 0;
            for (int pair = 0; pair < pairs && set != 0; pair++) {
                if ((parted >> pair & 1) == 0) {
                    bits |= (set >> one[pair] & 1) << two[pair];
                    bits |= (set >> two[pair] & 1) << one[pair];
                }
            }
            return bits;
        }

        /** A PLAYER, his FRIENDS, theirs and so on, by pairs that are not parted, as bits. */
        int reach(int player, int parted) {
            int reached = 1 << player;
            for (int round = 0; round < players; round++) {
                reached |= friendsOf(reached, parted);
            }
            return reached;
        }
    }

    /** Acts that are not taken back: of each its PLAYER and his CELL or loud ahead of it. */
    private static final class Acts {
        int count;
        final boolean[] ofLoud = new boolean[ACT_LIMIT];
        final int[] player = new int[ACT_LIMIT];
        final int[] was = new int[ACT_LIMIT];

        void add(boolean loud, int who, int before) {
            if (count < ACT_LIMIT) {
                ofLoud[count] = loud;
                player[count] = who;
                was[count] = before;
                count++;
            }
        }

        void takeBack(Green green) {
            if (count < 1) {
                return;
            }
            count--;
            if (ofLoud[count]) {
                green.loud[player[count]] = was[count];
            } else {
                green.cell[player[count]] = was[count];
            }
        }

        void copyFrom(Acts other) {
            count = other.count;
            System.arraycopy(other.ofLoud, 0, ofLoud, 0, ACT_LIMIT);
            System.arraycopy(other.player, 0, player, 0, ACT_LIMIT);
            System.arraycopy(other.was, 0, was, 0, ACT_LIMIT);
        }
    }

    /** MATCH (III): what the GREEN's text alone fixes is learnt once, all else is played anew. */
    private static final class Match {
        final int[] coughing = new int[LAST_MINUTE + 1];
        final boolean[] windy = new boolean[LAST_MINUTE + 1];
        final int[] still = new int[LAST_MINUTE + 1];
        final int[] laughing = new int[LAST_MINUTE + 1];
        final Draws draws = new Draws();
        int played;
        int resting;
        int fired;
        int parted;

        void learn(Green green) {
            for (int minute = 0; minute <= LAST_MINUTE; minute++) {
                coughing[minute] = 0;
                windy[minute] = false;
            }
            for (int p = 0; p < green.players; p++) {
                for (int minute = 1; minute <= LAST_MINUTE; minute++) {
                    if (green.every[p] > 0 && minute % green.every[p] == 0) {
                        coughing[minute] |= 1 << p;
                    }
                }
            }
            for (int w = 0; w < green.winds; w++) {
                for (int minute = green.from[w]; minute <= green.to[w] && minute <= LAST_MINUTE; minute++) {
                    windy[minute] = true;
                }
            }
        }

        void play(Green green, int until) {
            resting = 0;
            fired = 0;
            parted = 0;
            draws.stop();
            run(green, until);
        }

        /** With PLAYERS at REST, without UMPIRES, without pairs of FRIENDS: sets as bits. */
        void playWithout(Green green, int rest, int umpires, int pairs) {
            resting = rest;
            fired = umpires;
            parted = pairs;
            draws.stop();
            run(green, green.bell);
        }

        void playDrawn(Green green, long seed) {
            resting = 0;
            fired = 0;
            parted = 0;
            draws.start(seed, green.odds);
            run(green, green.bell);
        }

        private void run(Green green, int until) {
            int coughHeard = heardCoughers(green);
            int laughHeard = heardLaughers(green);
            int playing = bitsBelow(green.players) & ~resting;
            int fresh = 0;
            played = Math.min(until, LAST_MINUTE);
            still[0] = playing;
            for (int minute = 1; minute <= played; minute++) {
                int laughers = green.friendsOf(fresh, parted) & playing;
                int coughers = draws.chosen(coughing[minute] & playing);
                fresh = windy[minute] ? 0 : (coughers & coughHeard) | (laughers & laughHeard);
                playing &= ~fresh;
                laughing[minute] = laughers;
                still[minute] = playing;
            }
        }

        private int heardCoughers(Green green) {
            int bits = 0;
            for (int p = 0; p < green.players; p++) {
                if ((green.hearers(green.cell[p], green.loud[p]) & ~fired) != 0) {
                    bits |= 1 << p;
                }
            }
            return bits;
        }

        private int heardLaughers(Green green) {
            int bits = 0;
            for (int p = 0; p < green.players; p++) {
                if ((green.hearers(green.cell[p], green.laugh) & ~fired) != 0) {
                    bits |= 1 << p;
                }
            }
            return bits;
        }

        int outsIn(int minute) {
            return minute >= 1 && minute <= played ? still[minute - 1] & ~still[minute] : 0;
        }

        int allOuts(int minute) {
            return minute >= 0 && minute <= played ? still[0] & ~still[minute] : 0;
        }

        int minuteOut(int player) {
            for (int minute = 1; minute <= played; minute++) {
                if ((outsIn(minute) >> player & 1) != 0) {
                    return minute;
                }
            }
            return NONE;
        }

        int scoreAt(Green green, int side, int minute) {
            return minute >= 0 && minute <= played ? Integer.bitCount(still[minute] & green.sideBits(side)) : 0;
        }

        int lead(Green green, int side, int minute) {
            return scoreAt(green, side, minute) - scoreAt(green, 1 - side, minute);
        }

        /** The first UMPIRE who HEARS what a PLAYER is OUT for, a cough or a laugh. */
        int firstHearer(Green green, int player) {
            int minute = minuteOut(player);
            if (minute == NONE) {
                return NONE;
            }
            int bits = 0;
            if ((coughing[minute] >> player & 1) != 0) {
                bits |= green.hearers(green.cell[player], green.loud[player]);
            }
            if ((laughing[minute] >> player & 1) != 0) {
                bits |= green.hearers(green.cell[player], green.laugh);
            }
            return bits == 0 ? NONE : Integer.numberOfTrailingZeros(bits);
        }

        /** How many coughs of a PLAYER, to a minute, some UMPIRE would HEAR: LAUGHTER aside. */
        int risks(Green green, int player, int until) {
            if (green.hearers(green.cell[player], green.loud[player]) == 0) {
                return 0;
            }
            int count = 0;
            for (int minute = 1; minute <= until && minute <= LAST_MINUTE; minute++) {
                if (!windy[minute] && (coughing[minute] >> player & 1) != 0) {
                    count++;
                }
            }
            return count;
        }
    }

    /** DRAWS (VIII): who of those that have a cough coughs; all of them while it is stopped. */
    private static final class Draws {
        private static final long FACTOR = 1103515245L;
        private static final long STEP = 12345L;
        private static final long MODULUS = 2147483648L;
        private static final long CUT = 65536L;

        int count;
        private boolean running;
        private long x;
        private int odds;

        void stop() {
            running = false;
        }

        void start(long seed, int inTen) {
            running = true;
            x = seed;
            odds = inTen;
            count = 0;
        }

        int chosen(int coughers) {
            if (!running || coughers == 0) {
                return coughers;
            }
            int bits = 0;
            for (int p = 0; p < PLAYER_LIMIT; p++) {
                if ((coughers >> p & 1) != 0 && next() < odds) {
                    bits |= 1 << p;
                }
            }
            return bits;
        }

        private long next() {
            x = (FACTOR * x + STEP) % MODULUS;
            count++;
            return x / CUT % ODDS_WHOLE;
        }
    }

    /** COVER: the fewest CELLS, the least row of them, from which all CELLS are so many steps away. */
    private static final class Cover {
        final int[] chosen = new int[CELL_LIMIT];
        int size;
        private final int[] ball = new int[CELL_LIMIT];
        private int all;
        private int largest;

        void search(Green green, int steps) {
            size = NONE;
            if (steps < 0) {
                return;
            }
            all = bitsBelow(green.cells());
            largest = 0;
            for (int cell = 0; cell < green.cells(); cell++) {
                ball[cell] = green.around(cell, steps);
                largest = Math.max(largest, Integer.bitCount(ball[cell]));
            }
            for (int limit = 1; limit <= green.cells() && size == NONE; limit++) {
                choose(0, limit, 0, 0);
            }
        }

        /** Sets the size once the chosen CELLS reach all; the depth is at most the CELLS. */
        private void choose(int depth, int limit, int first, int reached) {
            int missing = all & ~reached;
            if (missing == 0) {
                size = depth;
                return;
            }
            if (depth >= limit || Integer.bitCount(missing) > (limit - depth) * largest) {
                return;
            }
            // CELLS rise: beyond the last one that reaches the first missing CELL, none could any more.
            int last = highestBit(ball[Integer.numberOfTrailingZeros(missing)]);
            for (int cell = first; cell <= last && size == NONE; cell++) {
                chosen[depth] = cell;
                choose(depth + 1, limit, cell + 1, reached | ball[cell]);
            }
        }

        private static int highestBit(int bits) {
            return 31 - Integer.numberOfLeadingZeros(bits);
        }
    }

    /** HEARD (V): the pairs of a CELL and a loudness that fit a row, CELLS as bits by loudness. */
    private static final class Heard {
        private final int[] fitting = new int[LOUDEST + 1];

        void gather(Green green, Row row) {
            for (int loudness = 1; loudness <= LOUDEST; loudness++) {
                fitting[loudness] = 0;
                for (int cell = 0; cell < green.cells(); cell++) {
                    if (row.agrees(green.hearers(cell, loudness))) {
                        fitting[loudness] |= 1 << cell;
                    }
                }
            }
        }

        int total() {
            int count = 0;
            for (int loudness = 1; loudness <= LOUDEST; loudness++) {
                count += Integer.bitCount(fitting[loudness]);
            }
            return count;
        }

        int cellBits() {
            int bits = 0;
            for (int loudness = 1; loudness <= LOUDEST; loudness++) {
                bits |= fitting[loudness];
            }
            return bits;
        }

        /** A loud of 0 makes no sound of HEARD's: fitting[0] is always 0. */
        int coughers(Green green) {
            int bits = 0;
            for (int p = 0; p < green.players; p++) {
                bits |= (fitting[green.loud[p]] >> green.cell[p] & 1) << p;
            }
            return bits;
        }

        int askedCell(Green green) {
            int fewest = total();
            int answer = NONE;
            for (int cell = 0; cell < green.cells(); cell++) {
                int worst = worstOf(green, cell);
                if (worst < fewest) {
                    fewest = worst;
                    answer = cell;
                }
            }
            return answer;
        }

        /** How many pairs stay at worst by an UMPIRE more, of deafness 0, on a CELL. */
        int worstOf(Green green, int cell) {
            int hearing = 0;
            for (int loudness = 1; loudness <= LOUDEST; loudness++) {
                hearing += Integer.bitCount(fitting[loudness] & green.around(cell, loudness));
            }
            return Math.max(hearing, total() - hearing);
        }
    }

    /** A SLOT's row; its width is NONE while it has nothing. */
    private static final class Row {
        int width = NONE;
        int size;
        final long[] numbers = new long[ROW_LIMIT];

        void renew(int newWidth, int newSize) {
            width = newWidth;
            size = newSize;
            for (int i = 0; i < ROW_LIMIT; i++) {
                numbers[i] = 0;
            }
        }

        long cut(long number) {
            switch (width) {
                case 0:
                    return (byte) number;
                case 1:
                    return (short) number;
                case 2:
                    return (int) number;
                default:
                    return number;
            }
        }

        /** Wide enough not to wrap around, whatever the place and the count are. */
        boolean hasRange(int place, int count) {
            return place >= 0 && count >= 0 && (long) place + count <= size;
        }

        /** Whether it has two numbers each: an UMPIRE, and 1 or 0. */
        boolean tellsEars(int umpires) {
            if (size % 2 != 0) {
                return false;
            }
            for (int i = 0; i + 1 < size; i += 2) {
                if (numbers[i] < 0 || numbers[i] >= umpires || numbers[i + 1] < 0 || numbers[i + 1] > 1) {
                    return false;
                }
            }
            return true;
        }

        /** Whether UMPIRES (bits) who HEAR a sound are as the row tells. */
        boolean agrees(int hearers) {
            for (int i = 0; i + 1 < size; i += 2) {
                if ((hearers >> (int) numbers[i] & 1) != numbers[i + 1]) {
                    return false;
                }
            }
            return true;
        }
    }
}
