import java.util.List;
import java.util.Random;

/** Random GREENS, with acts done on some: SilenceMatch and PlainMatch must answer alike. */
final class AgainstPlainTest {
    private static final Random RANDOM = new Random(20261118L);

    private AgainstPlainTest() {
    }

    public static void main(String[] args) {
        for (int round = 0; round < 400; round++) {
            PlainMatch plain = randomGreen(RANDOM);
            String text = plain.text();
            int acts = round % 3 == 0 ? RANDOM.nextInt(5) : 0;
            long actSeed = RANDOM.nextLong();
            PlainMatch now = plain.copy();
            act(new Random(actSeed), acts, null, now);
            compareGreen(made(text, plain, acts, actSeed), now, text);
            compareMatch(made(text, plain, acts, actSeed), now, text);
            compareSearches(made(text, plain, acts, actSeed), now, text);
            compareFriends(made(text, plain, acts, actSeed), now, text);
            compareHeard(made(text, plain, acts, actSeed), now, text);
            compareChances(made(text, plain, acts, actSeed), now, text);
            if (round % 4 == 0) {
                compareCover(made(text, plain, acts, actSeed), now, text);
            }
        }
        Check.finish("AgainstPlainTest");
    }

    private static int upTo(int most) {
        return upTo(RANDOM, most);
    }

    private static int upTo(Random random, int most) {
        return random.nextInt(most + 1);
    }

    static PlainMatch randomGreen(Random random) {
        PlainMatch g = new PlainMatch();
        g.wide = 1 + upTo(random, 4);
        g.high = 1 + upTo(random, 3);
        g.bell = 1 + upTo(random, 59);
        g.laugh = upTo(random, 12);
        g.odds = upTo(random, 10);
        int players = upTo(random, 8);
        for (int p = 0; p < players; p++) {
            int loudest = random.nextBoolean() ? 3 : 12;
            g.players.add(new int[] {upTo(random, 1), upTo(random, g.cells() - 1), upTo(random, loudest), 4 + upTo(random, 26)});
        }
        int umpires = random.nextInt(8) == 0 ? 0 : 1 + upTo(random, 3);
        for (int u = 0; u < umpires; u++) {
            g.umpires.add(new int[] {upTo(random, g.cells() - 1), upTo(random, random.nextBoolean() ? 2 : 9)});
        }
        int winds = upTo(random, 3);
        for (int w = 0; w < winds; w++) {
            int from = 1 + upTo(random, 59);
            g.winds.add(new int[] {from, Math.min(60, from + upTo(random, 8))});
        }
        int friends = players < 2 ? 0 : upTo(random, 9);
        for (int f = 0; f < friends; f++) {
            int one = upTo(random, players - 1);
            g.friends.add(new int[] {one, (one + 1 + upTo(random, players - 2)) % players});
        }
        return g;
    }

    private static SilenceMatch made(String text, PlainMatch plain, int acts, long actSeed) {
        SilenceMatch x = Check.green(text, plain.lines());
        act(new Random(actSeed), acts, x, plain.copy());
        return x;
    }

    /** Does the same acts on both (or on the plain one alone). */
    private static void act(Random random, int acts, SilenceMatch x, PlainMatch plain) {
        for (int i = 0; i < acts && !plain.players.isEmpty(); i++) {
            int p = random.nextInt(plain.players.size());
            boolean move = random.nextBoolean();
            int n = random.nextInt(move ? plain.cells() : 13);
            int[] player = plain.players.get(p);
            if (x != null) {
                Check.due("act", move ? x.move(p, n) : x.lozenge(p, n), player[move ? 1 : 2]);
            }
            player[move ? 1 : 2] = n;
        }
    }

    private static void compareGreen(SilenceMatch x, PlainMatch g, String t) {
        for (int p = 0; p < 8; p++) {
            boolean there = p < g.players.size();
            for (int w = 0; w < 4; w++) {
                Check.due(t + " player", x.player(p, w), there ? g.players.get(p)[w] : -2);
            }
            int bits = 0;
            for (int q = 0; q < 8; q++) {
                bits |= there && g.areFriends(p, q) ? 1 << q : 0;
            }
            Check.due(t + " player 4", x.player(p, 4), there ? bits : -2);
            int near = -1;
            for (int u = 0; there && u < g.umpires.size(); u++) {
                if (near < 0 || at(g, u, p) < at(g, near, p)) {
                    near = u;
                }
            }
            Check.due(t + " near", x.near(p), there ? near : -2);
        }
        for (int c = 0; c < 20; c++) {
            boolean there = c < g.cells();
            int other = upTo(19);
            Check.due(t + " far", x.far(c, other), there && other < g.cells() ? g.far(c, other) : -2);
            int loud = upTo(12);
            int bits = 0;
            for (int u = 0; there && u < g.umpires.size(); u++) {
                bits |= g.hears(g.umpires.get(u), c, loud) ? 1 << u : 0;
            }
            Check.due(t + " ears", x.ears(c, loud), there ? bits : -2);
            int quiet = 0;
            for (int l = 0; there && l <= 12; l++) {
                quiet = g.anyHears(c, l) ? quiet : l;
            }
            Check.due(t + " quiet", x.quiet(c), there ? quiet : -2);
            int crowd = 0;
            for (int p = 0; p < g.players.size(); p++) {
                crowd |= g.players.get(p)[1] == c ? 1 << p : 0;
            }
            Check.due(t + " crowd", x.crowd(c), there ? crowd : -2);
        }
        for (int loud = 0; loud <= 12; loud++) {
            int bits = 0;
            for (int c = 0; c < g.cells(); c++) {
                bits |= g.anyHears(c, loud) ? 0 : 1 << c;
            }
            Check.due(t + " dead", x.dead(loud), bits);
        }
        for (int m = 1; m <= 60; m++) {
            Check.due(t + " wind", x.wind(m), g.wind(m) ? 1 : 0);
        }
        int[] counts = {g.wide, g.high, g.bell, g.laugh, g.odds, g.cells(), g.players.size(), g.umpires.size(),
            g.winds.size(), g.friends.size()};
        for (int w = 0; w < counts.length; w++) {
            Check.due(t + " count " + w, x.count(w), counts[w]);
        }
        Check.due(t + " count 11", x.count(11), g.lines());
    }

    private static int at(PlainMatch g, int umpire, int player) {
        return g.far(g.umpires.get(umpire)[0], g.players.get(player)[1]);
    }

    private static void compareMatch(SilenceMatch x, PlainMatch g, String t) {
        PlainMatch.Story s = g.tell();
        int[] fingers = new int[4];
        for (int p = 0; p < g.players.size(); p++) {
            Check.due(t + " out", x.out(p), s.out.getOrDefault(p, -1));
            int finger = g.finger(p);
            Check.due(t + " finger", x.finger(p), finger);
            if (finger >= 0) {
                fingers[finger]++;
            }
        }
        for (int u = 0; u < 4; u++) {
            Check.due(t + " fingers", x.fingers(u), u < g.umpires.size() ? fingers[u] : -2);
        }
        int last = -1;
        int[] gone = {-1, -1};
        for (int m = 0; m <= g.bell + 1; m++) {
            boolean there = m >= 1 && m <= g.bell;
            int outs = 0;
            int tries = 0;
            int coughs = 0;
            for (int p = 0; p < g.players.size(); p++) {
                int out = s.out.getOrDefault(p, 1000);
                outs |= out == m ? 1 << p : 0;
                boolean coughing = m % g.players.get(p)[3] == 0;
                coughs |= coughing ? 1 << p : 0;
                tries |= coughing && out >= m ? 1 << p : 0;
            }
            last = outs != 0 ? m : last;
            Check.due(t + " outs", x.outs(m), there ? outs : -2);
            Check.due(t + " coughs", x.coughs(m), there ? coughs : -2);
            Check.due(t + " tries", x.tries(m), there ? tries : -2);
            Check.due(t + " laughs", x.laughs(m), there ? PlainMatch.bits(s.laughed.get(m)) : -2);
            for (int side = 0; side < 2; side++) {
                int score = g.score(s, side, m, 0);
                gone[side] = score == 0 && gone[side] < 0 && m <= g.bell ? m : gone[side];
                Check.due(t + " score", x.score(side, m), m <= g.bell ? score : -2);
            }
        }
        Check.due(t + " last", x.last(), last);
        Check.due(t + " gone 0", x.gone(0), gone[0]);
        Check.due(t + " gone 1", x.gone(1), gone[1]);
        Check.due(t + " wins", x.wins(), g.wins(s));
        Check.due(t + " leads", x.leads(), g.leads());
        Check.due(t + " calm", x.calm(), g.longest(false));
        Check.due(t + " chain", x.chain(), g.longest(true));
        Check.due(t + " bells 0", x.bells(0), g.bells(0));
        Check.due(t + " bells 1", x.bells(1), g.bells(1));
    }

    private static void compareSearches(SilenceMatch x, PlainMatch g, String t) {
        Check.due(t + " fire", x.fire(), g.fire());
        Check.due(t + " grudge", x.grudge(), g.grudge());
        for (int side = 0; side < 2; side++) {
            Check.due(t + " swap", x.swap(side), g.swap(side));
            Check.due(t + " drop", x.drop(side), g.drop(side));
        }
        for (int p = 0; p < g.players.size(); p++) {
            Check.due(t + " safe", x.safe(p), g.safe(p));
            int[] place = g.place(p);
            Check.due(t + " place", x.place(p), place[0]);
            Check.due(t + " lasts", x.lasts(p), place[1] == 1000 ? -1 : place[1]);
            int[] best = g.best(p);
            Check.due(t + " best", x.best(p), best[0]);
            Check.due(t + " gains", x.gains(p), best[1]);
            Check.due(t + " hush", x.hush(p), g.hush(p));
        }
        int evens = g.evens();
        Check.due(t + " even", x.even(), Integer.bitCount(evens));
        Check.due(t + " evens", x.evens(), evens);
        for (int i = 0; i < 20; i++) {
            int set = upTo((1 << g.players.size()) - 1);
            int side = upTo(1);
            Check.due(t + " without", x.without(set, side), g.score(g.tell(g.bell, set, null), side, g.bell, set));
        }
    }

    private static void compareCover(SilenceMatch x, PlainMatch g, String t) {
        int deaf = upTo(9);
        int loud = Math.min(12, Math.max(1, deaf + upTo(4) - 1));
        List<Integer> row = g.cover(deaf, loud);
        Check.due(t + " cover", x.cover(deaf, loud), row == null ? -1 : row.size());
        for (int i = -1; i <= 20; i++) {
            boolean there = row != null && i >= 0 && i < row.size();
            Check.due(t + " covers", x.covers(deaf, loud, i), there ? row.get(i) : -1);
        }
        for (deaf = 0; deaf <= 9; deaf++) {
            for (loud = 1; loud <= 12; loud++) {
                Check.due(t + " more", x.more(deaf, loud), g.more(deaf, loud));
            }
        }
    }

    private static void compareFriends(SilenceMatch x, PlainMatch g, String t) {
        Check.due(t + " groups", x.groups(), g.groups());
        for (int p = 0; p < g.players.size(); p++) {
            Check.due(t + " spread", x.spread(p), g.spread(p));
            for (int q = 0; q < g.players.size(); q++) {
                int parts = g.parts(p, q);
                Check.due(t + " parts", x.parts(p, q), parts);
                Check.due(t + " part", x.part(p, q), parts < 0 ? -1 : Integer.bitCount(parts));
            }
        }
    }

    private static void compareHeard(SilenceMatch x, PlainMatch g, String t) {
        for (int i = 0; i < 5; i++) {
            long[] row = new long[g.umpires.isEmpty() ? 0 : 2 * upTo(5)];
            int slot = upTo(3);
            int width = upTo(3);
            int cell = upTo(g.cells() - 1);
            int loud = 1 + upTo(11);
            x.row(slot, width, row.length);
            for (int k = 0; k < row.length; k += 2) {
                row[k] = upTo(g.umpires.size() - 1);
                // Mostly of a true sound, so that something fits.
                boolean heard = g.hears(g.umpires.get((int) row[k]), cell, loud);
                row[k + 1] = heard != (RANDOM.nextInt(20) == 0) ? 1 : 0;
                x.write(slot, k, row[k] + (width < 3 ? 1L << (8 << width) : 0));
                x.write(slot, k + 1, row[k + 1]);
            }
            int spots = 0;
            int who = 0;
            for (int[] pair : g.fits(row)) {
                spots |= 1 << pair[0];
                for (int p = 0; p < g.players.size(); p++) {
                    int[] player = g.players.get(p);
                    who |= player[1] == pair[0] && player[2] == pair[1] ? 1 << p : 0;
                }
            }
            int[] ask = g.ask(row);
            Check.due(t + " fits", x.fits(slot), g.fits(row).size());
            Check.due(t + " spots", x.spots(slot), spots);
            Check.due(t + " who", x.who(slot), who);
            Check.due(t + " ask", x.ask(slot), ask[0]);
            Check.due(t + " leaves", x.leaves(slot), ask[1]);
        }
    }

    private static void compareChances(SilenceMatch x, PlainMatch g, String t) {
        for (int p = 0; p < g.players.size(); p++) {
            Check.due(t + " chance 0", x.chance(p, 0), g.chance(p, g.bell)[0].longValueExact());
            Check.due(t + " chance 1", x.chance(p, 1), g.chance(p, g.bell)[1].longValueExact());
            for (int i = 0; i < 12; i++) {
                int hundredths = i == 0 ? 0 : i == 1 ? 100 : upTo(100);
                Check.due(t + " sure", x.sure(p, hundredths), g.sure(p, hundredths));
            }
            int seed = i31();
            int n = 1 + upTo(19);
            int lucky = 0;
            for (int i = 0; i < n; i++) {
                lucky += g.tell(g.bell, 0, (long) seed + i).out.containsKey(p) ? 0 : 1;
            }
            Check.due(t + " luck", x.luck(seed, n, p), lucky);
        }
        Check.due(t + " surest", x.surest(0), g.surest(0));
        Check.due(t + " surest", x.surest(1), g.surest(1));
        for (int i = 0; i < 10; i++) {
            int seed = i31();
            PlainMatch.Story s = g.tell(g.bell, 0, (long) seed);
            Check.due(t + " drawn 0", x.drawn(seed, 0), PlainMatch.bits(s.out.keySet()));
            Check.due(t + " drawn 1", x.drawn(seed, 1), g.wins(s));
            Check.due(t + " drawn 2", x.drawn(seed, 2), s.draws);
        }
    }

    private static int i31() {
        return RANDOM.nextInt(4) == 0 ? upTo(3) : RANDOM.nextInt(2000000001);
    }
}
