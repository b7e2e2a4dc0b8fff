/** The edges of the terms READABLE, ODDS, YEARS and of promises 28, 30 and 31: strength, odds, drawn. */
public final class ForetoldEdgesTest {
    private static final Checks c = new Checks("ForetoldEdgesTest");

    public static void main(String[] args) {
        strengthOfAll();
        strengthOfTheWeakest();
        strengthOfNone();
        oddsOfNoChunk();
        oddsOfEnds();
        oddsOfOneToFour();
        oddsOfFive();
        oddsOfDown();
        oddsOfStale();
        oddsOfApartChunks();
        drawnOfNought();
        drawnFirst();
        drawnSpoilt();
        drawnHidden();
        drawnFull();
        drawnSeeds();
        drawnOfForgotten();
        nothingChanges();
        c.end();
    }

    private static void strengthOfAll() {
        c.about("strength: 0 to 4");
        for (int wanted = 1; wanted <= 3; wanted++) {
            GreatChunks x = Checks.with("h5," + wanted + ",4,5,3;f1;f3;f5;");
            for (int f = 0; f < 3; f++) {
                Checks.append(x, f, "a");
            }
            c.due("strength(0) of " + wanted, x.strength(0), wanted - 1);
            c.due("strength(1) of " + wanted, x.strength(1), wanted);
            c.due("strength(2) of " + wanted, x.strength(2), 0);
        }
        GreatChunks x = Checks.with("h5,3,4,5,3;f3;");
        Checks.append(x, 0, "a");
        x.down(3);
        x.mend();
        x.up(3);
        for (int s = 0; s < 5; s++) {
            c.due("with " + s + " DOWN", x.strength(0), 4 - s);
            x.down(s);
        }
        c.due("all DOWN", x.strength(0), Checks.NONE);
    }

    private static void strengthOfTheWeakest() {
        c.about("strength: whichever, so that all CHUNKS are READABLE yet");
        GreatChunks x = Checks.with("h4,3,4,5,3;f1;");
        Checks.append(x, 0, "abcd");
        c.due("three COPIES", x.strength(0), 2);
        x.down(1);
        x.down(3);
        Checks.append(x, 0, "efgh");
        x.up(1);
        x.up(3);
        c.due("the first has three", x.chunk(0, 6), 7);
        c.due("the second has two", x.chunk(1, 6), 5);
        c.due("the second counts", x.strength(0), 1);
        x.down(2);
        c.due("one of the second is DOWN", x.strength(0), 0);
        x.down(0);
        c.due("the second is not READABLE", x.strength(0), Checks.NONE);
        c.due("though the first is", x.chunk(0, 6), 2);
    }

    private static void strengthOfNone() {
        c.about("strength: NONE: it has no CHUNK");
        GreatChunks x = Checks.with("h2,1,4,5,3;f1;");
        c.due("no CHUNK", x.strength(0), Checks.NONE);
        x.down(0);
        Checks.append(x, 0, "a");
        c.due("one COPY", x.strength(0), 0);
        x.spoil(1, 1);
        x.put(0, 0, 'b');
        c.due("it is STALE", x.strength(0), Checks.NONE);
    }

    private static void dueOdds(String call, GreatChunks x, int file, int p, long above, long below) {
        c.due(call + ", above", x.odds(file, p, 0), above);
        c.due(call + ", below", x.odds(file, p, 1), below);
    }

    private static void oddsOfNoChunk() {
        c.about("ODDS of a FILE without CHUNKS: all are READABLE");
        GreatChunks x = Checks.with("h2,1,4,5,3;f1;");
        for (int p = 0; p <= 10; p++) {
            dueOdds("p " + p, x, 0, p, 1, 1);
        }
        x.down(0);
        x.down(1);
        dueOdds("all DOWN", x, 0, 10, 1, 1);
    }

    private static void oddsOfEnds() {
        c.about("ODDS by p of 10 (0 to 10); 0 is 0 by 1");
        for (int servers = 2; servers <= 5; servers++) {
            GreatChunks x = Checks.with("h" + servers + ",3,4,5,3;f3;");
            Checks.append(x, 0, "a");
            dueOdds("p 0", x, 0, 0, 1, 1);
            dueOdds("p 10", x, 0, 10, 0, 1);
            for (int s = 0; s < servers; s++) {
                x.down(s);
            }
            dueOdds("all DOWN, p 0", x, 0, 0, 0, 1);
            dueOdds("all DOWN, p 5", x, 0, 5, 0, 1);
        }
    }

    private static void oddsOfOneToFour() {
        c.about("ODDS: a fraction in lowest terms");
        long[] lowestBelow = {1, 10, 5, 10, 5, 2, 5, 10, 5, 10, 1};
        long[] goesDown = {0, 1, 1, 3, 2, 1, 3, 7, 4, 9, 1};
        for (int wanted = 1; wanted <= 3; wanted++) {
            GreatChunks x = Checks.with("h5," + wanted + ",4,5,3;f1;f3;");
            Checks.append(x, 0, "a");
            Checks.append(x, 1, "a");
            for (int p = 0; p <= 10; p++) {
                long all = 1;
                long fails = 1;
                for (int i = 0; i < wanted; i++) {
                    all *= lowestBelow[p];
                    fails *= goesDown[p];
                }
                long above = all - fails;
                dueOdds(wanted + " COPIES, p " + p, x, 0, p, above, above == 0 ? 1 : all);
                above = all * lowestBelow[p] - fails * goesDown[p];
                dueOdds("1 more, p " + p, x, 1, p, above, above == 0 ? 1 : all * lowestBelow[p]);
            }
        }
    }

    private static void oddsOfFive() {
        c.about("ODDS of five COPIES");
        GreatChunks x = Checks.with("h5,3,4,5,3;f3;");
        Checks.append(x, 0, "a");
        x.down(3);
        x.mend();
        x.up(3);
        dueOdds("p 1", x, 0, 1, 99999, 100000);
        dueOdds("p 9", x, 0, 9, 40951, 100000);
        dueOdds("p 5", x, 0, 5, 31, 32);
    }

    private static void oddsOfDown() {
        c.about("ODDS: each SERVER that is UP; one that is DOWN stays so");
        GreatChunks x = Checks.with("h3,3,4,5,3;f1;");
        Checks.append(x, 0, "a");
        dueOdds("three UP, p 3", x, 0, 3, 973, 1000);
        x.down(1);
        dueOdds("two UP, p 3", x, 0, 3, 91, 100);
        x.down(0);
        dueOdds("one UP, p 3", x, 0, 3, 7, 10);
        x.down(2);
        dueOdds("none UP, p 3", x, 0, 3, 0, 1);
    }

    private static void oddsOfStale() {
        c.about("ODDS: STALE COPIES are not read");
        GreatChunks x = Checks.with("h2,2,4,5,3;f1;");
        Checks.append(x, 0, "a");
        x.spoil(0, 1);
        x.put(0, 0, 'b');
        dueOdds("one is STALE, p 1", x, 0, 1, 9, 10);
        x.down(1);
        dueOdds("only the STALE one is UP", x, 0, 1, 0, 1);
    }

    private static void oddsOfApartChunks() {
        c.about("ODDS: how likely all CHUNKS of a FILE are READABLE");
        GreatChunks x = Checks.with("h4,1,4,5,3;f1;");
        for (int k = 0; k < 4; k++) {
            Checks.append(x, 0, "abcd");
            c.due("chunk(" + k + ", 4)", x.chunk(k, 4), 1 << k);
            long all = 1;
            long up = 1;
            for (int i = 0; i <= k; i++) {
                all *= 10;
                up *= 7;
            }
            dueOdds((k + 1) + " CHUNKS apart, p 3", x, 0, 3, up, all);
        }
        dueOdds("p 5", x, 0, 5, 1, 16);
        dueOdds("p 9", x, 0, 9, 1, 10000);
    }

    private static void drawnOfNought() {
        c.about("YEARS of n times (0 to 12)");
        GreatChunks x = Checks.with("h2,2,4,5,3;f1;f1;f1;f1;f1;f1;");
        c.due("none in 0", x.drawn(0, 1, 0), 0);
        c.due("no CHUNK", x.drawn(0, 999999, 1), 0);
        c.due("no COPY", x.drawn(0, 999999, 2), 0);
        Checks.append(x, 0, "a");
        c.due("none in 0", x.drawn(0, 1, 0), 0);
        c.due("those that are", x.drawn(0, 1, 1), 1);
        c.due("those that are", x.drawn(0, 1, 2), 2);
    }

    /**
     * Seed 1: X is 16807. By 128: 131, by 2 leaves 1, by 5 leaves 1. By 6 it leaves 1: file 1. By 8: 2100, by 4 leaves 0: 1 letter,
     * by 9 leaves 3: 4 letters.
     * Seed 999999: X is 999999 times 16807, 16806983193, by 2147483647 leaves 1774597664. By 128: 13864044, by 2 leaves 0. By 6 it
     * leaves 2: file 2.
     */
    private static void drawnFirst() {
        c.about("YEARS: the first of the least SEED, of the greatest");
        for (int file = 0; file < 6; file++) {
            GreatChunks x = Checks.with("h2,2,4,5,3;");
            x.create(file, 1);
            c.due("seed 1, file " + file, x.drawn(1, 1, 0), file == 1 ? 1 : 0);
            c.due("CHUNKS", x.drawn(1, 1, 1), file == 1 ? 1 : 0);
            c.due("COPIES", x.drawn(1, 1, 2), file == 1 ? 2 : 0);
            c.due("seed 999999, file " + file, x.drawn(1, 999999, 0), file == 2 ? 1 : 0);
        }
        GreatChunks x = Checks.with("h2,2,4,5,3;f1;f1;");
        x.spoil(1, 2);
        c.due("the other is SPOILT by 3 then: FAILED", x.drawn(1, 1, 0), 0);
        x.spoil(1, 1);
        c.due("by 2: the third TRY", x.drawn(1, 1, 0), 1);
        c.due("in one CHUNK", x.drawn(1, 1, 1), 1);
        x = Checks.with("h5,3,9,5,3;f1;f1;");
        x.spoil(1, 1);
        c.due("four letters thrice", x.drawn(1, 1, 0), 1);
        c.due("in two CHUNKS", x.drawn(1, 1, 1), 2);
        c.due("COPIES", x.drawn(1, 1, 2), 6);
    }

    /** SPOILT by 1 more (9 at most): the same years, told call by call, from all that can be. */
    private static void drawnSpoilt() {
        c.about("YEARS: SPOILT by 1 more (9 at most)");
        for (int spoilt = 6; spoilt <= 9; spoilt++) {
            for (int seed = 1; seed <= 400; seed++) {
                String house = "h2,2,9,5,3;f1;f1;f1;f1;f1;f1;";
                GreatChunks x = Checks.with(house);
                GreatChunks told = Checks.with(house);
                for (int s = 0; s < 2; s++) {
                    x.spoil(s, spoilt);
                    told.spoil(s, spoilt);
                }
                int placed = byHand(told, 12, seed * 2497);
                c.due("placed, seed " + seed * 2497, x.drawn(12, seed * 2497, 0), placed);
                c.due("CHUNKS", x.drawn(12, seed * 2497, 1), told.sums(1));
                c.due("COPIES", x.drawn(12, seed * 2497, 2), told.sums(3));
            }
        }
    }

    /** The same years, told call by call, of a house whose SIZE is 9. */
    private static int byHand(GreatChunks x, int n, long seed) {
        long draw = seed;
        int placed = 0;
        for (int year = 0; year < n; year++) {
            draw = draw * 16807L % 2147483647L;
            int server = (int) (draw / 128 % x.count(0));
            x.spoil(server, Math.min(9, x.server(server, 5) + 1));
            String letter = String.valueOf((char) ('a' + draw / 64 % 26));
            placed += Checks.append(x, (int) (draw % 6), letter.repeat(1 + (int) (draw / 8 % 9))) >= 0 ? 1 : 0;
        }
        return placed;
    }

    private static void drawnHidden() {
        c.about("YEARS: if it is THERE (else nothing)");
        GreatChunks x = Checks.with("h2,2,4,5,3;f1;f1;");
        x.remove(1);
        c.due("HIDDEN", x.drawn(1, 1, 0), 0);
        c.due("no CHUNK came", x.drawn(1, 1, 1), 0);
        x.tick(3);
        c.due("none", x.drawn(1, 1, 0), 0);
        x.create(1, 2);
        c.due("THERE", x.drawn(1, 1, 0), 1);
    }

    private static void drawnFull() {
        c.about("YEARS: how many RECORDS had a place as answer; not LOST, FAILED, FULL");
        GreatChunks x = Checks.with("h2,2,4,5,3;f1;f1;");
        x.down(0);
        x.down(1);
        c.due("LOST", x.drawn(1, 1, 0), 0);
        x.up(0);
        c.due("one SERVER", x.drawn(1, 1, 0), 1);
        c.due("one COPY", x.drawn(1, 1, 2), 1);
        for (int k = 0; k < 4; k++) {
            Checks.append(x, 1, "abcd");
        }
        c.due("FULL", x.drawn(1, 1, 0), 0);
        c.due("four CHUNKS", x.drawn(1, 1, 1), 4);
    }

    private static void drawnSeeds() {
        c.about("YEARS by a SEED (1 to 999999), told call by call");
        int[] seeds = {1, 2, 3, 127, 128, 127773, 127774, 500000, 777777, 999998, 999999};
        for (int servers = 2; servers <= 5; servers++) {
            for (int seed : seeds) {
                for (int n = 0; n <= 12; n++) {
                    String house = "h" + servers + ",2,9,5,3;s3;s2;f1;f2;f3;f4;f5;";
                    GreatChunks x = Checks.with(house);
                    GreatChunks told = Checks.with(house);
                    int placed = byHand(told, n, seed);
                    c.due("placed of " + n + ", seed " + seed, x.drawn(n, seed, 0), placed);
                    c.due("CHUNKS of " + n + ", seed " + seed, x.drawn(n, seed, 1), told.sums(1));
                    c.due("COPIES of " + n + ", seed " + seed, x.drawn(n, seed, 2), told.sums(3));
                }
            }
        }
    }

    private static void drawnOfForgotten() {
        c.about("YEARS: CHUNKS and COPIES there are then, FORGOTTEN ones too");
        GreatChunks x = Checks.with("h2,2,4,5,0;f1;");
        Checks.append(x, 0, "a");
        x.remove(0);
        c.due("sums(2)", x.sums(2), 1);
        c.due("CHUNKS", x.drawn(3, 1, 1), 1);
        c.due("COPIES", x.drawn(3, 1, 2), 2);
        x.beat(0);
        c.due("COPIES", x.drawn(3, 1, 2), 1);
    }

    private static void nothingChanges() {
        c.about("FORETOLD (nothing changes)");
        GreatChunks x = Checks.with("h3,2,4,5,3;f1;f1;f1;f1;f1;f1;");
        Checks.append(x, 0, "abc");
        x.down(0);
        x.feed('a');
        String before = Checks.look(x);
        for (int turn = 0; turn < 3; turn++) {
            x.mends();
            x.drawn(12, 4 + turn, turn);
            x.odds(0, turn, 0);
            x.strength(0);
            x.left(0);
            x.target(3);
        }
        c.due("all is as it was", Checks.look(x).equals(before) ? 1 : 0, 1);
        c.due("count(6)", x.count(6), 1);
        c.due("undo()", x.undo(), 1);
        c.due("server(0, 0)", x.server(0, 0), 1);
    }
}
