import java.math.BigInteger;
import java.util.ArrayList;
import java.util.List;
import java.util.Map;
import java.util.TreeMap;
import java.util.TreeSet;

/**
 * The document told a second time, as slowly and plainly as can be, for a GREEN that is given by its
 * numbers: AgainstPlainTest asks it and SilenceMatch the same. It shares no code with SilenceMatch.
 */
final class PlainMatch {
    int wide, high, bell, laugh, odds;
    final List<int[]> players = new ArrayList<>();
    final List<int[]> umpires = new ArrayList<>();
    final List<int[]> winds = new ArrayList<>();
    final List<int[]> friends = new ArrayList<>();

    PlainMatch copy() {
        PlainMatch c = new PlainMatch();
        c.wide = wide;
        c.high = high;
        c.bell = bell;
        c.laugh = laugh;
        c.odds = odds;
        for (int[] p : players) c.players.add(p.clone());
        for (int[] u : umpires) c.umpires.add(u.clone());
        for (int[] w : winds) c.winds.add(w.clone());
        for (int[] f : friends) c.friends.add(f.clone());
        return c;
    }

    int lines() {
        return 1 + players.size() + umpires.size() + winds.size() + friends.size();
    }

    int cells() {
        return wide * high;
    }

    int far(int a, int b) {
        int ax = a % wide, ay = a / wide, bx = b % wide, by = b / wide, steps = 0;
        while (ax != bx) {
            ax += ax < bx ? 1 : -1;
            steps++;
        }
        while (ay != by) {
            ay += ay < by ? 1 : -1;
            steps++;
        }
        return steps;
    }

    boolean wind(int minute) {
        for (int[] w : winds) if (w[0] <= minute && minute <= w[1]) return true;
        return false;
    }

    boolean hears(int[] umpire, int cell, int loud) {
        return loud > 0 && far(umpire[0], cell) + umpire[1] <= loud;
    }

    boolean anyHears(int cell, int loud) {
        for (int[] u : umpires) if (hears(u, cell, loud)) return true;
        return false;
    }

    boolean areFriends(int p, int q) {
        for (int[] f : friends) if (f[0] == p && f[1] == q || f[0] == q && f[1] == p) return true;
        return false;
    }

    /** What happened: by PLAYER the minute in which he is OUT; by minute who laughed; draws. */
    static final class Story {
        final Map<Integer, Integer> out = new TreeMap<>();
        final Map<Integer, TreeSet<Integer>> laughed = new TreeMap<>();
        int draws;
    }

    /** From a seed, or not drawn if it is null. */
    Story tell(int until, int rest, Long seed) {
        Story s = new Story();
        BigInteger x = seed == null ? null : BigInteger.valueOf(seed);
        for (int minute = 1; minute <= until; minute++) {
            TreeSet<Integer> caught = new TreeSet<>();
            TreeSet<Integer> laughed = new TreeSet<>();
            for (int p = 0; p < players.size(); p++) {
                if ((rest >> p & 1) != 0 || s.out.containsKey(p)) continue;
                int[] player = players.get(p);
                boolean coughs = minute % player[3] == 0;
                if (coughs && x != null) {
                    x = x.multiply(BigInteger.valueOf(1103515245)).add(BigInteger.valueOf(12345)).mod(BigInteger.ONE.shiftLeft(31));
                    s.draws++;
                    coughs = x.divide(BigInteger.valueOf(65536)).mod(BigInteger.TEN).intValue() < odds;
                }
                boolean laughs = false;
                for (int q = 0; q < players.size(); q++) {
                    if (areFriends(p, q) && s.out.containsKey(q) && s.out.get(q) == minute - 1) laughs = true;
                }
                if (laughs) laughed.add(p);
                if (wind(minute)) continue;
                if (coughs && anyHears(player[1], player[2]) || laughs && anyHears(player[1], laugh)) caught.add(p);
            }
            for (int p : caught) s.out.put(p, minute);
            s.laughed.put(minute, laughed);
        }
        return s;
    }

    Story tell() {
        return tell(bell, 0, null);
    }

    int score(Story s, int side, int minute, int rest) {
        int n = 0;
        for (int p = 0; p < players.size(); p++) {
            if (players.get(p)[0] == side && (rest >> p & 1) == 0 && s.out.getOrDefault(p, 1000) > minute) n++;
        }
        return n;
    }

    int above(Story s, int side) {
        return score(s, side, bell, 0) - score(s, 1 - side, bell, 0);
    }

    int wins(Story s) {
        int d = above(s, 0);
        return d == 0 ? -1 : d > 0 ? 0 : 1;
    }

    int finger(int p) {
        Story s = tell();
        if (!s.out.containsKey(p)) return -1;
        int minute = s.out.get(p);
        int[] player = players.get(p);
        for (int u = 0; u < umpires.size(); u++) {
            if (minute % player[3] == 0 && hears(umpires.get(u), player[1], player[2])) return u;
            if (s.laughed.get(minute).contains(p) && hears(umpires.get(u), player[1], laugh)) return u;
        }
        return -99;
    }

    int leads() {
        Story s = tell();
        int side = wins(s);
        if (side < 0) return -1;
        for (int m = 0; m <= bell; m++) {
            boolean all = true;
            for (int k = m; k <= bell; k++) all &= score(s, side, k, 0) > score(s, 1 - side, k, 0);
            if (all) return m;
        }
        return -99;
    }

    int longest(boolean ofLaughter) {
        Story s = tell();
        for (int length = bell; length > 0; length--) {
            for (int first = 1; first + length - 1 <= bell; first++) {
                boolean all = true;
                for (int m = first; m < first + length; m++) {
                    all &= ofLaughter ? !s.laughed.get(m).isEmpty() : !s.out.containsValue(m);
                }
                if (all) return length;
            }
        }
        return 0;
    }

    int bells(int side) {
        for (int m = 1; m <= 60; m++) {
            PlainMatch c = copy();
            c.bell = m;
            if (c.wins(c.tell()) == side) return m;
        }
        return -1;
    }

    int fire() {
        int fewest = tell().out.size(), answer = -1;
        for (int u = 0; u < umpires.size(); u++) {
            PlainMatch c = copy();
            c.umpires.remove(u);
            if (c.tell().out.size() < fewest) {
                fewest = c.tell().out.size();
                answer = u;
            }
        }
        return answer;
    }

    int grudge() {
        int fewest = tell().out.size(), answer = -1;
        for (int f = 0; f < friends.size(); f++) {
            PlainMatch c = copy();
            c.friends.remove(f);
            if (c.tell().out.size() < fewest) {
                fewest = c.tell().out.size();
                answer = f;
            }
        }
        return answer;
    }

    int swap(int side) {
        int most = above(tell(), side), answer = -1;
        for (int i = 0; i < players.size(); i++) {
            for (int j = i + 1; j < players.size(); j++) {
                if (players.get(i)[0] != side || players.get(j)[0] != side) continue;
                PlainMatch c = copy();
                c.players.get(i)[1] = players.get(j)[1];
                c.players.get(j)[1] = players.get(i)[1];
                if (c.above(c.tell(), side) > most) {
                    most = c.above(c.tell(), side);
                    answer = 10 * i + j;
                }
            }
        }
        return answer;
    }

    PlainMatch moved(int p, int cell) {
        PlainMatch c = copy();
        c.players.get(p)[1] = cell;
        return c;
    }

    int safe(int p) {
        int bits = 0;
        for (int c = 0; c < cells(); c++) if (!moved(p, c).tell().out.containsKey(p)) bits |= 1 << c;
        return bits;
    }

    int[] place(int p) {
        int[] answer = {0, -5};
        for (int c = 0; c < cells(); c++) {
            int out = moved(p, c).tell().out.getOrDefault(p, 1000);
            if (out > answer[1]) answer = new int[] {c, out};
        }
        return answer;
    }

    int[] best(int p) {
        int[] answer = {0, -5000};
        for (int c = 0; c < cells(); c++) {
            PlainMatch m = moved(p, c);
            int d = m.above(m.tell(), players.get(p)[0]);
            if (d > answer[1]) answer = new int[] {c, d};
        }
        return answer;
    }

    int hush(int p) {
        int answer = -1;
        for (int loud = 0; loud <= 12; loud++) {
            PlainMatch c = copy();
            c.players.get(p)[2] = loud;
            if (!c.tell().out.containsKey(p)) answer = loud;
        }
        return answer;
    }

    /** The first row of CELLS by size, then as rows are ordered; null if there is none. */
    List<Integer> cover(int deaf, int loud) {
        for (int size = 1; size <= cells(); size++) {
            List<Integer> found = cover(deaf, loud, size, new ArrayList<>());
            if (found != null) return found;
            if (deaf >= loud && size < cells()) size = cells() - 1;
        }
        return null;
    }

    private List<Integer> cover(int deaf, int loud, int size, List<Integer> row) {
        if (row.size() == size) {
            for (int c = 0; c < cells(); c++) {
                boolean heard = false;
                for (int u : row) heard |= far(u, c) + deaf <= loud;
                if (!heard) return null;
            }
            return new ArrayList<>(row);
        }
        for (int c = row.isEmpty() ? 0 : row.get(row.size() - 1) + 1; c < cells(); c++) {
            row.add(c);
            List<Integer> found = cover(deaf, loud, size, row);
            row.remove(row.size() - 1);
            if (found != null) return found;
        }
        return null;
    }

    int more(int deaf, int loud) {
        int most = 0, answer = -1;
        for (int c = 0; c < cells(); c++) {
            int n = 0;
            for (int k = 0; k < cells(); k++) if (!anyHears(k, loud) && hears(new int[] {c, deaf}, k, loud)) n++;
            if (n > most) {
                most = n;
                answer = c;
            }
        }
        return answer;
    }

    boolean linked(int p, int q, int parted, TreeSet<Integer> seen) {
        if (p == q) return true;
        if (!seen.add(p)) return false;
        for (int f = 0; f < friends.size(); f++) {
            if ((parted >> f & 1) != 0) continue;
            int[] pair = friends.get(f);
            if (pair[0] == p && linked(pair[1], q, parted, seen)) return true;
            if (pair[1] == p && linked(pair[0], q, parted, seen)) return true;
        }
        return false;
    }

    int spread(int p) {
        int bits = 0;
        for (int q = 0; q < players.size(); q++) if (linked(p, q, 0, new TreeSet<>())) bits |= 1 << q;
        return bits;
    }

    int groups() {
        TreeSet<Integer> sets = new TreeSet<>();
        for (int p = 0; p < players.size(); p++) sets.add(spread(p));
        return sets.size();
    }

    int parts(int p, int q) {
        for (int size = 0; size <= 9; size++) {
            for (int set = 0; set < 1 << friends.size(); set++) {
                if (Integer.bitCount(set) == size && !linked(p, q, set, new TreeSet<>())) return set;
            }
        }
        return -1;
    }

    /** Pairs of a CELL and a loudness by a row of HEARD. */
    List<int[]> fits(long[] row) {
        List<int[]> pairs = new ArrayList<>();
        for (int c = 0; c < cells(); c++) {
            for (int loud = 1; loud <= 12; loud++) {
                boolean all = true;
                for (int i = 0; i < row.length; i += 2) {
                    all &= hears(umpires.get((int) row[i]), c, loud) == (row[i + 1] == 1);
                }
                if (all) pairs.add(new int[] {c, loud});
            }
        }
        return pairs;
    }

    int[] ask(long[] row) {
        List<int[]> pairs = fits(row);
        int[] answer = {-1, pairs.size()};
        for (int c = 0; c < cells(); c++) {
            int yes = 0;
            for (int[] pair : pairs) if (hears(new int[] {c, 0}, pair[0], pair[1])) yes++;
            int worst = Math.max(yes, pairs.size() - yes);
            if (worst < answer[1]) answer = new int[] {c, worst};
        }
        return answer;
    }

    int evens() {
        for (int size = 0; size <= players.size(); size++) {
            for (int set = 0; set < 1 << players.size(); set++) {
                if (Integer.bitCount(set) != size) continue;
                Story s = tell(bell, set, null);
                if (score(s, 0, bell, set) == score(s, 1, bell, set)) return set;
            }
        }
        return -99;
    }

    int drop(int side) {
        int most = score(tell(), side, bell, 0), answer = -1;
        for (int p = 0; p < players.size(); p++) {
            if (players.get(p)[0] != side) continue;
            int n = score(tell(bell, 1 << p, null), side, bell, 1 << p);
            if (n > most) {
                most = n;
                answer = p;
            }
        }
        return answer;
    }

    /** CHANCE to a minute: above and below, in lowest terms. */
    BigInteger[] chance(int p, int until) {
        BigInteger above = BigInteger.ONE, below = BigInteger.ONE;
        int[] player = players.get(p);
        for (int m = 1; m <= until; m++) {
            if (m % player[3] != 0 || wind(m) || !anyHears(player[1], player[2])) continue;
            above = above.multiply(BigInteger.valueOf(10 - odds));
            below = below.multiply(BigInteger.TEN);
        }
        BigInteger g = above.gcd(below);
        return new BigInteger[] {above.divide(g), below.divide(g)};
    }

    int surest(int side) {
        int answer = -1;
        for (int p = 0; p < players.size(); p++) {
            if (players.get(p)[0] != side) continue;
            if (answer < 0) {
                answer = p;
                continue;
            }
            BigInteger[] a = chance(p, bell), b = chance(answer, bell);
            if (a[0].multiply(b[1]).compareTo(b[0].multiply(a[1])) > 0) answer = p;
        }
        return answer;
    }

    int sure(int p, int hundredths) {
        int answer = -99;
        for (int m = 0; m <= bell; m++) {
            BigInteger[] c = chance(p, m);
            if (c[0].multiply(BigInteger.valueOf(100)).compareTo(c[1].multiply(BigInteger.valueOf(hundredths))) >= 0) answer = m;
        }
        return answer;
    }

    static int bits(Iterable<Integer> set) {
        int bits = 0;
        for (int k : set) bits |= 1 << k;
        return bits;
    }

    String text() {
        StringBuilder b = new StringBuilder();
        b.append("green wide ").append(wide).append(" high ").append(high).append(" bell ").append(bell);
        b.append(" laugh ").append(laugh).append(" odds ").append(odds).append(";");
        for (int[] p : players) {
            b.append("player on ").append(p[0]).append(" at ").append(p[1]).append(" loud ").append(p[2]);
            b.append(" every ").append(p[3]).append(";\n");
        }
        for (int[] u : umpires) b.append("umpire at ").append(u[0]).append(" deaf ").append(u[1]).append(" ; ");
        for (int[] w : winds) b.append("wind from ").append(w[0]).append(" to ").append(w[1]).append(";");
        for (int[] f : friends) b.append("friends ").append(f[0]).append(" ").append(f[1]).append(";");
        return b.toString();
    }
}
