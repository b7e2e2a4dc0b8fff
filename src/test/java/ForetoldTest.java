/** Promises 26 to 28, 30 and 31: target, left, strength, odds, drawn. */
public final class ForetoldTest {
    private static final Checks c = new Checks("ForetoldTest");

    public static void main(String[] args) {
        target();
        left();
        strength();
        odds();
        drawn();
        c.end();
    }

    private static void target() {
        c.about("promise 26");
        GreatChunks x = new GreatChunks();
        c.due("target without house", x.target(9), Checks.STATE);
        x = Checks.with("h4,2,4,5,2;s1;s2;s3;s4;f1;");
        c.due("target(0)", x.target(0), Checks.BAD);
        c.due("target(6)", x.target(6), Checks.BAD);
        c.due("target(-1)", x.target(-1), Checks.BAD);
        int[] want = {3, 3, 7, 3, 1};
        for (int kind = 1; kind <= 5; kind++) {
            c.due("target(" + kind + ")", x.target(kind), want[kind - 1]);
        }
        Checks.append(x, 0, "abcd");
        c.due("those that are less full", x.target(1), 12);
        c.due("and the next", x.target(3), 14);
        x.down(2);
        c.due("those that are up", x.target(1), 10);
        x.down(1);
        x.down(3);
        c.due("one alone", x.target(3), 1);
        x.down(0);
        c.due("none", x.target(1), 0);
        c.due("no copy came", x.sums(3), 2);
    }

    private static void left() {
        c.about("promise 27");
        GreatChunks x = new GreatChunks();
        c.due("left without house", x.left(9), Checks.STATE);
        x = Checks.with("h2,2,6,5,2;f1;");
        c.due("left(-1)", x.left(-1), Checks.BAD);
        c.due("left(6)", x.left(6), Checks.BAD);
        c.due("left(1), none", x.left(1), Checks.STATE);
        c.due("left(0), no chunk", x.left(0), Checks.NONE);
        Checks.append(x, 0, "ab");
        c.due("left(0)", x.left(0), 4);
        x.spoil(1, 3);
        Checks.append(x, 0, "c");
        c.due("the greatest filled", x.left(0), 1);
        x.down(0);
        c.due("of the able alone", x.left(0), 4);
        x.up(0);
        Checks.append(x, 0, "d");
        c.due("left(0)", x.left(0), 0);
        Checks.append(x, 0, "efg");
        c.due("of the last chunk", x.left(0), 3);
        x.down(0);
        x.down(1);
        c.due("not readable", x.left(0), Checks.NONE);
        x.remove(0);
        c.due("hidden", x.left(0), Checks.STATE);
    }

    private static void strength() {
        c.about("promise 28");
        GreatChunks x = new GreatChunks();
        c.due("strength without house", x.strength(9), Checks.STATE);
        x = Checks.with("h5,3,4,5,2;f3;f5;");
        c.due("strength(-1)", x.strength(-1), Checks.BAD);
        c.due("strength(6)", x.strength(6), Checks.BAD);
        c.due("strength(2), none", x.strength(2), Checks.STATE);
        c.due("strength(0), no chunk", x.strength(0), Checks.NONE);
        Checks.append(x, 0, "abcd");
        Checks.append(x, 1, "a");
        c.due("strength(0)", x.strength(0), 3);
        c.due("strength(1)", x.strength(1), 0);
        x.down(0);
        c.due("with one down", x.strength(0), 2);
        x.down(1);
        x.down(2);
        Checks.append(x, 0, "abcd");
        c.due("the weakest chunk", x.strength(0), 0);
        x.down(3);
        c.due("one is not readable", x.strength(0), Checks.NONE);
        x.up(3);
        x.remove(0);
        c.due("hidden", x.strength(0), Checks.STATE);
    }

    private static void odds() {
        c.about("promise 30");
        GreatChunks x = new GreatChunks();
        c.due("odds without house", x.odds(9, 99, 9), Checks.STATE);
        x = Checks.with("h3,2,4,5,2;f1;f3;");
        c.due("odds(-1, 0, 0)", x.odds(-1, 0, 0), Checks.BAD);
        c.due("odds(6, 0, 0)", x.odds(6, 0, 0), Checks.BAD);
        c.due("odds(0, -1, 0)", x.odds(0, -1, 0), Checks.BAD);
        c.due("odds(0, 11, 0)", x.odds(0, 11, 0), Checks.BAD);
        c.due("odds(0, 0, 2)", x.odds(0, 0, 2), Checks.BAD);
        c.due("odds(0, 0, -1)", x.odds(0, 0, -1), Checks.BAD);
        c.due("odds(2, 11, 0): BAD ahead of STATE", x.odds(2, 11, 0), Checks.BAD);
        c.due("odds(2, 0, 0), none", x.odds(2, 0, 0), Checks.STATE);
        dueOdds(x, "no chunk", 10, 1, 1);
        Checks.append(x, 0, "abc");
        dueOdds(x, "none goes down", 0, 1, 1);
        dueOdds(x, "all go down", 10, 0, 1);
        dueOdds(x, "two copies, p 1", 1, 99, 100);
        dueOdds(x, "two copies, p 5", 5, 3, 4);
        dueOdds(x, "two copies, p 9", 9, 19, 100);
        x.down(1);
        dueOdds(x, "one copy", 3, 7, 10);
        x.up(1);
        // The second chunk lies at 0 and 2, the first at 0 and 1: 0 up, or both others.
        Checks.append(x, 0, "def");
        c.due("chunk(1, 4)", x.chunk(1, 4), 5);
        dueOdds(x, "two chunks, p 5", 5, 5, 8);
        dueOdds(x, "two chunks, p 2", 2, 116, 125);
        x.down(0);
        dueOdds(x, "one copy each", 2, 16, 25);
        x.down(1);
        dueOdds(x, "one is not readable", 0, 0, 1);
        x.remove(0);
        c.due("hidden", x.odds(0, 1, 0), Checks.STATE);
    }

    private static void dueOdds(GreatChunks x, String call, int p, long above, long below) {
        c.due(call + ", above", x.odds(0, p, 0), above);
        c.due(call + ", below", x.odds(0, p, 1), below);
    }

    private static void drawn() {
        c.about("promise 31");
        GreatChunks x = new GreatChunks();
        c.due("drawn without house", x.drawn(99, 0, 9), Checks.STATE);
        x = Checks.with("h3,2,4,5,2;f1;f2;f3;f4;f5;f1;");
        c.due("drawn(-1, 1, 0)", x.drawn(-1, 1, 0), Checks.BAD);
        c.due("drawn(13, 1, 0)", x.drawn(13, 1, 0), Checks.BAD);
        c.due("drawn(1, 0, 0)", x.drawn(1, 0, 0), Checks.BAD);
        c.due("drawn(1, 1000000, 0)", x.drawn(1, 1000000, 0), Checks.BAD);
        c.due("drawn(1, 1, -1)", x.drawn(1, 1, -1), Checks.BAD);
        c.due("drawn(1, 1, 3)", x.drawn(1, 1, 3), Checks.BAD);
        c.due("drawn(0, 1, 0)", x.drawn(0, 1, 0), 0);
        c.due("drawn(0, 1, 1)", x.drawn(0, 1, 1), 0);
        // X is 16807: server 131 by 3 leaves 2, file 1, 1 and 2100 by 4 leaves 0: 1 letter at servers 0, 1.
        c.due("drawn(1, 1, 0)", x.drawn(1, 1, 0), 1);
        c.due("drawn(1, 1, 1)", x.drawn(1, 1, 1), 1);
        c.due("drawn(1, 1, 2)", x.drawn(1, 1, 2), 2);
        againstHand();
        c.due("nothing changed", x.sums(1) + x.count(5) + x.server(2, 5), 0);
    }

    /** The same years, told call by call. */
    private static void againstHand() {
        for (int seed = 1; seed < 999999; seed += 66666) {
            for (int n = 0; n <= 12; n += 4) {
                GreatChunks x = Checks.with("h3,2,4,5,2;f1;f2;f3;f4;f5;");
                GreatChunks told = Checks.with("h3,2,4,5,2;f1;f2;f3;f4;f5;");
                int placed = byHand(told, n, seed);
                c.due("drawn(" + n + ", " + seed + ", 0)", x.drawn(n, seed, 0), placed);
                c.due("drawn(" + n + ", " + seed + ", 1)", x.drawn(n, seed, 1), told.sums(1));
                c.due("drawn(" + n + ", " + seed + ", 2)", x.drawn(n, seed, 2), told.sums(3));
            }
        }
    }

    private static int byHand(GreatChunks x, int n, long seed) {
        long draw = seed;
        int placed = 0;
        for (int year = 0; year < n; year++) {
            draw = (draw * 16807L) % 2147483647L;
            int server = (int) ((draw / 128) % x.count(0));
            x.spoil(server, Math.min(9, x.server(server, 5) + 1));
            int many = 1 + (int) ((draw / 8) % 4);
            StringBuilder record = new StringBuilder();
            for (int i = 0; i < many; i++) {
                record.append((char) ('a' + (draw / 64) % 26));
            }
            if (Checks.append(x, (int) (draw % 6), record.toString()) >= 0) {
                placed++;
            }
        }
        return placed;
    }
}
