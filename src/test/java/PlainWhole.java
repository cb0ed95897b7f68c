import java.math.BigInteger;
import java.util.ArrayList;
import java.util.HashMap;
import java.util.List;
import java.util.Map;
import java.util.regex.Matcher;
import java.util.regex.Pattern;

/**
 * The whole document told a second time: TAPE, FAULTS, acts, IMAGES and SLOTS, with PlainMatch for what a GREEN
 * answers. WholeRunsTest asks it and SilenceMatch the same runs of calls. It shares no code with SilenceMatch.
 */
final class PlainWhole {
    private static final Map<String, String> LINES = new HashMap<>();
    private static final Map<String, Integer> MOST = Map.of("player", 8, "umpire", 4, "wind", 3, "friends", 9);

    static {
        LINES.put("green", "wide 1-5 high 1-4 bell 1-60 laugh 0-12 odds 0-10");
        LINES.put("player", "on 0-1 at CELL loud 0-12 every 4-30");
        LINES.put("umpire", "at CELL deaf 0-9");
        LINES.put("wind", "from 1-60 to LATER");
        LINES.put("friends", "PLAYER OTHER");
    }

    private static final class Image {
        PlainMatch green;
        List<PlainMatch> ahead;
    }

    private String tape = "";
    private PlainMatch green;
    /** What the GREEN was ahead of each act. */
    private List<PlainMatch> ahead = new ArrayList<>();
    private int fault = 0;
    private int place = -1;
    private final Image[] images = new Image[3];
    private final int[] widths = {-1, -1, -1, -1};
    private final long[][] rows = new long[4][];

    PlainMatch green() {
        return green;
    }

    long answer(String call, long... a) {
        int[] n = new int[a.length];
        for (int i = 0; i < n.length; i++) {
            n[i] = (int) a[i];
        }
        switch (call) {
            case "feed":
                return feed(n);
            case "end":
                return end(n[0]);
            case "green":
                return read();
            case "fault":
                return n[0] == 0 ? fault : n[0] == 1 ? place : -1;
            case "count":
                return count(n[0]);
            case "image":
                return keep(n[0]);
            case "back":
                return back(n[0]);
            case "row":
                return row(n[0], n[1], n[2]);
            case "write":
                return write(n[0], n[1], a[2]);
            case "paste":
                return paste(n[0], n[1], n[2], n[3], n[4]);
            case "gains":
                return hasPlayer(n[0]) ? green.best(n[0])[1] : -1000;
            default:
                return green == null ? -2 : ofGreen(call, n);
        }
    }

    // ---- TAPE

    private int feed(int[] n) {
        if (tape.length() + 20 > 900) {
            return -1;
        }
        StringBuilder b = new StringBuilder(tape);
        for (int number : n) {
            b.append((char) (number >>> 24)).append((char) (number >>> 16 & 255));
            b.append((char) (number >>> 8 & 255)).append((char) (number & 255));
        }
        tape = b.toString();
        return tape.length();
    }

    private int end(int n) {
        if (n < 0 || n > tape.length()) {
            return -1;
        }
        tape = tape.substring(0, n);
        return n;
    }

    private int read() {
        fault = 0;
        place = -1;
        PlainMatch told = told();
        if (fault != 0) {
            return -4;
        }
        tape = "";
        ahead = new ArrayList<>();
        green = told;
        return told == null ? 0 : told.lines();
    }

    private final List<String> tokens = new ArrayList<>();
    private final List<Integer> starts = new ArrayList<>();

    private PlainMatch told() {
        tokens.clear();
        starts.clear();
        Matcher m = Pattern.compile("[a-z]+|[0-9]+|[^ \n]").matcher(tape);
        while (m.find()) {
            tokens.add(m.group());
            starts.add(m.start());
        }
        tokens.add("");
        starts.add(tape.length());
        PlainMatch g = null;
        int at = 0;
        while (at < tokens.size() - 1) {
            String word = tokens.get(at);
            if (!LINES.containsKey(word) || word.equals("green") != (g == null)) {
                return wrong(1, at);
            }
            g = g == null ? new PlainMatch() : g;
            if (!word.equals("green") && rowsOf(g, word).size() == MOST.get(word)) {
                return wrong(3, at);
            }
            at = line(g, word, at + 1);
            if (at < 0) {
                return null;
            }
        }
        return g;
    }

    private PlainMatch wrong(int which, int at) {
        fault = which;
        place = starts.get(at);
        return null;
    }

    /** Which TOKEN comes behind a LINE and its sign; -1 by a FAULT. */
    private int line(PlainMatch g, String word, int first) {
        int at = first;
        List<Integer> numbers = new ArrayList<>();
        for (String want : (LINES.get(word) + " ;").split(" ")) {
            String token = tokens.get(at);
            if (want.matches("[a-z;]+")) {
                if (!token.equals(want)) {
                    wrong(1, at);
                    return -1;
                }
            } else {
                if (!token.matches("[0-9]+")) {
                    wrong(1, at);
                    return -1;
                }
                if (!isWithin(g, want, new BigInteger(token), numbers)) {
                    wrong(2, at);
                    return -1;
                }
                numbers.add(Integer.parseInt(token.replaceFirst("^0+(?=.)", "")));
            }
            at++;
        }
        take(g, word, numbers.stream().mapToInt(Integer::intValue).toArray());
        return at;
    }

    private static boolean isWithin(PlainMatch g, String want, BigInteger number, List<Integer> ahead) {
        switch (want) {
            case "CELL":
                return number.compareTo(BigInteger.valueOf(g.cells())) < 0;
            case "LATER":
                return isBetween(number, ahead.get(0), 60);
            case "PLAYER":
                return number.compareTo(BigInteger.valueOf(g.players.size())) < 0;
            case "OTHER":
                return isWithin(g, "PLAYER", number, ahead) && number.intValue() != ahead.get(0);
            default:
                String[] bounds = want.split("-");
                return isBetween(number, Integer.parseInt(bounds[0]), Integer.parseInt(bounds[1]));
        }
    }

    private static boolean isBetween(BigInteger number, int low, int high) {
        return number.compareTo(BigInteger.valueOf(low)) >= 0 && number.compareTo(BigInteger.valueOf(high)) <= 0;
    }

    private static List<int[]> rowsOf(PlainMatch g, String word) {
        switch (word) {
            case "player":
                return g.players;
            case "umpire":
                return g.umpires;
            case "wind":
                return g.winds;
            default:
                return g.friends;
        }
    }

    private static void take(PlainMatch g, String word, int[] n) {
        if (!word.equals("green")) {
            rowsOf(g, word).add(n);
            return;
        }
        g.wide = n[0];
        g.high = n[1];
        g.bell = n[2];
        g.laugh = n[3];
        g.odds = n[4];
    }

    // ---- counts, IMAGES, SLOTS

    private int count(int what) {
        int slots = 0;
        for (long[] row : rows) {
            slots += row == null ? 0 : 1;
        }
        PlainMatch g = green == null ? new PlainMatch() : green;
        int[] all = {g.wide, g.high, g.bell, g.laugh, g.odds, g.cells(), g.players.size(), g.umpires.size(),
            g.winds.size(), g.friends.size(), ahead.size(), green == null ? 0 : g.lines(), tape.length(), slots};
        return what >= 0 && what < all.length ? all[what] : -1;
    }

    private int keep(int k) {
        if (k < 0 || k > 2) {
            return -2;
        }
        images[k] = new Image();
        images[k].green = green == null ? null : green.copy();
        images[k].ahead = new ArrayList<>(ahead);
        return 0;
    }

    private int back(int k) {
        if (k < 0 || k > 2) {
            return -2;
        }
        if (images[k] == null) {
            return -6;
        }
        green = images[k].green == null ? null : images[k].green.copy();
        ahead = new ArrayList<>(images[k].ahead);
        return 0;
    }

    private static boolean isSlot(int slot) {
        return slot >= 0 && slot <= 3;
    }

    private int row(int slot, int width, int n) {
        if (!isSlot(slot) || width < 0 || width > 3 || n > 60) {
            return -2;
        }
        if (n < 0) {
            return -3;
        }
        widths[slot] = width;
        rows[slot] = new long[n];
        return 0;
    }

    private int write(int slot, int i, long v) {
        if (!isSlot(slot)) {
            return -2;
        }
        if (rows[slot] == null) {
            return -6;
        }
        if (i < 0 || i >= rows[slot].length) {
            return -7;
        }
        int bits = 8 << widths[slot];
        rows[slot][i] = BigInteger.valueOf(v).mod(BigInteger.ONE.shiftLeft(bits)).longValue();
        return 0;
    }

    private int paste(int slot, int i, int to, int k, int n) {
        if (!isSlot(slot) || !isSlot(to)) {
            return -2;
        }
        if (rows[slot] == null || rows[to] == null) {
            return -6;
        }
        if (widths[slot] != widths[to]) {
            return -8;
        }
        if (i < 0 || k < 0 || n < 0 || (long) i + n > rows[slot].length || (long) k + n > rows[to].length) {
            return -7;
        }
        long[] was = rows[slot].clone();
        for (int j = 0; j < n; j++) {
            rows[to][k + j] = was[i + j];
        }
        return 0;
    }

    // ---- what needs a GREEN

    private boolean hasPlayer(int p) {
        return green != null && p >= 0 && p < green.players.size();
    }

    private boolean hasCell(int c) {
        return c >= 0 && c < green.cells();
    }

    private static boolean isIn(int n, int low, int high) {
        return n >= low && n <= high;
    }

    private long ofGreen(String call, int[] n) {
        switch (call) {
            case "move":
            case "lozenge":
                return act(call.equals("move"), n[0], n[1]);
            case "undo":
                if (ahead.isEmpty()) {
                    return -5;
                }
                green = ahead.remove(ahead.size() - 1);
                return ahead.size();
            case "anew":
                int were = ahead.size();
                green = were == 0 ? green : ahead.get(0);
                ahead = new ArrayList<>();
                return were;
            case "bell":
                return bell(n[0]);
            case "player":
            case "near":
            case "out":
            case "finger":
            case "safe":
            case "place":
            case "lasts":
            case "best":
            case "hush":
            case "spread":
            case "part":
            case "parts":
            case "chance":
            case "sure":
                return hasPlayer(n[0]) ? ofPlayer(call, n) : -2;
            case "ears":
            case "quiet":
            case "crowd":
            case "far":
                return hasCell(n[0]) ? ofCell(call, n) : -2;
            case "coughs":
            case "outs":
            case "laughs":
            case "tries":
                return isIn(n[0], 1, green.bell) ? ofMinute(call, n[0]) : -2;
            case "gone":
            case "bells":
            case "swap":
            case "drop":
            case "surest":
            case "score":
                return isIn(n[0], 0, 1) ? ofSide(call, n) : -2;
            case "fits":
            case "spots":
            case "who":
            case "ask":
            case "leaves":
                return ofSlot(call, n[0]);
            default:
                return ofMatch(call, n);
        }
    }

    private int act(boolean isMove, int p, int v) {
        if (!hasPlayer(p) || (isMove ? !hasCell(v) : !isIn(v, 0, 12))) {
            return -2;
        }
        if (ahead.size() == 40) {
            return -5;
        }
        ahead.add(green);
        green = green.copy();
        int[] player = green.players.get(p);
        int was = player[isMove ? 1 : 2];
        player[isMove ? 1 : 2] = v;
        return was;
    }

    private int bell(int n) {
        if (!isIn(n, 1, 60)) {
            return -2;
        }
        if (!ahead.isEmpty()) {
            return -5;
        }
        int was = green.bell;
        green = green.copy();
        green.bell = n;
        return was;
    }

    private long ofPlayer(String call, int[] n) {
        int p = n[0];
        switch (call) {
            case "player":
                int bits = 0;
                for (int q = 0; q < 8; q++) {
                    bits |= green.areFriends(p, q) ? 1 << q : 0;
                }
                return n[1] == 4 ? bits : isIn(n[1], 0, 3) ? green.players.get(p)[n[1]] : -2;
            case "near":
                int near = -1;
                for (int steps = 7; steps >= 0; steps--) {
                    for (int u = green.umpires.size() - 1; u >= 0; u--) {
                        near = green.far(green.umpires.get(u)[0], green.players.get(p)[1]) == steps ? u : near;
                    }
                }
                return near;
            case "out":
                return green.tell().out.getOrDefault(p, -1);
            case "finger":
                return green.finger(p);
            case "safe":
                return green.safe(p);
            case "place":
                return green.place(p)[0];
            case "lasts":
                return green.place(p)[1] == 1000 ? -1 : green.place(p)[1];
            case "best":
                return green.best(p)[0];
            case "hush":
                return green.hush(p);
            case "spread":
                return green.spread(p);
            case "part":
            case "parts":
                int parts = hasPlayer(n[1]) ? green.parts(p, n[1]) : -2;
                return parts < 0 || call.equals("parts") ? parts : Integer.bitCount(parts);
            case "chance":
                return isIn(n[1], 0, 1) ? green.chance(p, green.bell)[n[1]].longValueExact() : -2;
            default:
                return isIn(n[1], 0, 100) ? green.sure(p, n[1]) : -2;
        }
    }

    private int ofCell(String call, int[] n) {
        int bits = 0;
        switch (call) {
            case "far":
                return hasCell(n[1]) ? green.far(n[0], n[1]) : -2;
            case "ears":
                for (int u = 0; u < green.umpires.size(); u++) {
                    bits |= green.hears(green.umpires.get(u), n[0], n[1]) ? 1 << u : 0;
                }
                return isIn(n[1], 0, 12) ? bits : -2;
            case "quiet":
                int quiet = 0;
                for (int loud = 0; loud <= 12; loud++) {
                    quiet = green.anyHears(n[0], loud) ? quiet : loud;
                }
                return quiet;
            default:
                for (int p = 0; p < green.players.size(); p++) {
                    bits |= green.players.get(p)[1] == n[0] ? 1 << p : 0;
                }
                return bits;
        }
    }

    private int ofMinute(String call, int minute) {
        PlainMatch.Story s = green.tell();
        int bits = 0;
        for (int p = 0; p < green.players.size(); p++) {
            int out = s.out.getOrDefault(p, 1000);
            boolean coughs = minute % green.players.get(p)[3] == 0;
            boolean is = call.equals("outs") ? out == minute : call.equals("laughs") ? s.laughed.get(minute).contains(p)
                    : coughs && (call.equals("coughs") || out >= minute);
            bits |= is ? 1 << p : 0;
        }
        return bits;
    }

    private int ofSide(String call, int[] n) {
        switch (call) {
            case "gone":
                for (int minute = 0; minute <= green.bell; minute++) {
                    if (green.score(green.tell(), n[0], minute, 0) == 0) {
                        return minute;
                    }
                }
                return -1;
            case "bells":
                return green.bells(n[0]);
            case "swap":
                return green.swap(n[0]);
            case "drop":
                return green.drop(n[0]);
            case "surest":
                return green.surest(n[0]);
            default:
                return isIn(n[1], 0, green.bell) ? green.score(green.tell(), n[0], n[1], 0) : -2;
        }
    }

    private int ofSlot(String call, int slot) {
        if (!isSlot(slot)) {
            return -2;
        }
        long[] row = rows[slot];
        if (row == null) {
            return -6;
        }
        for (int i = 0; i < row.length; i++) {
            if (row.length % 2 != 0 || row[i] < 0 || row[i] >= (i % 2 == 0 ? green.umpires.size() : 2)) {
                return -2;
            }
        }
        int spots = 0;
        int who = 0;
        for (int[] pair : green.fits(row)) {
            spots |= 1 << pair[0];
            for (int p = 0; p < green.players.size(); p++) {
                int[] player = green.players.get(p);
                who |= player[1] == pair[0] && player[2] == pair[1] ? 1 << p : 0;
            }
        }
        switch (call) {
            case "fits":
                return green.fits(row).size();
            case "spots":
                return spots;
            case "who":
                return who;
            case "ask":
                return green.ask(row)[0];
            default:
                return green.ask(row)[1];
        }
    }

    private long ofMatch(String call, int[] n) {
        PlainMatch.Story s = green.tell();
        switch (call) {
            case "umpire":
                return isIn(n[0], 0, green.umpires.size() - 1) && isIn(n[1], 0, 1) ? green.umpires.get(n[0])[n[1]] : -2;
            case "wind":
                return isIn(n[0], 1, 60) ? green.wind(n[0]) ? 1 : 0 : -2;
            case "dead":
                return isIn(n[0], 0, 12) ? dead(n[0]) : -2;
            case "fingers":
                return isIn(n[0], 0, green.umpires.size() - 1) ? fingers(n[0]) : -2;
            case "wins":
                return green.wins(s);
            case "leads":
                return green.leads();
            case "last":
                return s.out.values().stream().mapToInt(Integer::intValue).max().orElse(-1);
            case "calm":
                return green.longest(false);
            case "chain":
                return green.longest(true);
            case "fire":
                return green.fire();
            case "grudge":
                return green.grudge();
            case "groups":
                return green.groups();
            case "cover":
            case "covers":
            case "more":
                return isIn(n[0], 0, 9) && isIn(n[1], 1, 12) ? covers(call, n) : -2;
            case "even":
                return Integer.bitCount(green.evens());
            case "evens":
                return green.evens();
            case "without":
                return isIn(n[0], 0, (1 << green.players.size()) - 1) && isIn(n[1], 0, 1)
                        ? green.score(green.tell(green.bell, n[0], null), n[1], green.bell, n[0]) : -2;
            case "drawn":
                return isIn(n[0], 0, 2000000000) && isIn(n[1], 0, 2) ? drawn(n[0], n[1]) : -2;
            case "luck":
                return isIn(n[0], 0, 2000000000) && isIn(n[1], 1, 20) && hasPlayer(n[2]) ? luck(n) : -2;
            default:
                throw new IllegalArgumentException(call);
        }
    }

    private int dead(int loud) {
        int bits = 0;
        for (int c = 0; c < green.cells(); c++) {
            bits |= green.anyHears(c, loud) ? 0 : 1 << c;
        }
        return bits;
    }

    private int fingers(int umpire) {
        int count = 0;
        for (int p = 0; p < green.players.size(); p++) {
            count += green.finger(p) == umpire ? 1 : 0;
        }
        return count;
    }

    private int covers(String call, int[] n) {
        if (call.equals("more")) {
            return green.more(n[0], n[1]);
        }
        List<Integer> row = green.cover(n[0], n[1]);
        if (call.equals("cover")) {
            return row == null ? -1 : row.size();
        }
        return row != null && isIn(n[2], 0, row.size() - 1) ? row.get(n[2]) : -1;
    }

    private int drawn(int seed, int what) {
        PlainMatch.Story s = green.tell(green.bell, 0, (long) seed);
        return what == 0 ? PlainMatch.bits(s.out.keySet()) : what == 1 ? green.wins(s) : s.draws;
    }

    private int luck(int[] n) {
        int lucky = 0;
        for (int i = 0; i < n[1]; i++) {
            lucky += green.tell(green.bell, 0, (long) n[0] + i).out.containsKey(n[2]) ? 0 : 1;
        }
        return lucky;
    }
}
