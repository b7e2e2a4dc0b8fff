/** Promises 13 to 16 and 18: down, up, spoil, beat, server. */
public final class ServersTest {
    private static final Checks c = new Checks("ServersTest");

    public static void main(String[] args) {
        downAndUp();
        spoil();
        beat();
        server();
        c.end();
    }

    private static void downAndUp() {
        c.about("promises 13 and 14");
        GreatChunks x = new GreatChunks();
        c.due("down without house", x.down(0), Checks.BAD);
        c.due("up without house", x.up(0), Checks.BAD);
        x = Checks.with("h3,2,4,5,2;f1;");
        c.due("down(-1)", x.down(-1), Checks.BAD);
        c.due("down(3)", x.down(3), Checks.BAD);
        c.due("up(3)", x.up(3), Checks.BAD);
        c.due("up(-1)", x.up(-1), Checks.BAD);
        c.due("up(1), it is up", x.up(1), Checks.STATE);
        Checks.append(x, 0, "ab");
        c.due("down(0)", x.down(0), 2);
        c.due("down(0) again", x.down(0), Checks.STATE);
        c.due("server(0, 0)", x.server(0, 0), 0);
        c.due("its copy lies there yet", x.chunk(0, 4), 3);
        c.due("but it is not able", x.chunk(0, 6), 2);
        c.due("the lease does not hold", x.chunk(0, 2), Checks.NONE);
        c.due("down(2)", x.down(2), 1);
        c.due("down(1)", x.down(1), 0);
        c.due("count(1)", x.count(1), 0);
        c.due("up(0)", x.up(0), 1);
        c.due("up(0) again", x.up(0), Checks.STATE);
        c.due("able again", x.chunk(0, 6), 1);
    }

    private static void spoil() {
        c.about("promise 15");
        GreatChunks x = new GreatChunks();
        c.due("spoil without house", x.spoil(0, 0), Checks.BAD);
        x = Checks.with("h2,2,4,5,2;f1;");
        c.due("spoil(-1, 0)", x.spoil(-1, 0), Checks.BAD);
        c.due("spoil(2, 0)", x.spoil(2, 0), Checks.BAD);
        c.due("spoil(0, -1)", x.spoil(0, -1), Checks.BAD);
        c.due("spoil(0, 10)", x.spoil(0, 10), Checks.BAD);
        c.due("spoil(0, 9)", x.spoil(0, 9), 0);
        c.due("spoil(0, 2)", x.spoil(0, 2), 9);
        c.due("server(0, 5)", x.server(0, 5), 2);
        c.due("server(1, 5)", x.server(1, 5), 0);
        x.down(0);
        c.due("spoil of one that is down", x.spoil(0, 0), 2);
        c.due("server(0, 5)", x.server(0, 5), 0);
    }

    private static void beat() {
        c.about("promise 16");
        GreatChunks x = new GreatChunks();
        c.due("beat without house", x.beat(0), Checks.BAD);
        x = Checks.with("h2,2,4,5,2;f1;f4;f4;");
        c.due("beat(-1)", x.beat(-1), Checks.BAD);
        c.due("beat(2)", x.beat(2), Checks.BAD);
        Checks.append(x, 0, "ab");
        Checks.append(x, 1, "cd");
        Checks.append(x, 2, "ef");
        c.due("beat of good ones", x.beat(1), 0);
        x.down(1);
        c.due("beat(1), it is down", x.beat(1), Checks.STATE);
        Checks.append(x, 0, "gh");
        x.put(2, 0, 'z');
        x.remove(1);
        x.remove(2);
        x.up(1);
        c.due("stale ones", x.server(1, 3), 2);
        c.due("of forgotten chunks", x.server(1, 4), 2);
        c.due("beat(1)", x.beat(1), 3);
        c.due("server(1, 2)", x.server(1, 2), 0);
        c.due("beat(1) again", x.beat(1), 0);
        c.due("beat(0)", x.beat(0), 2);
        c.dueCells(x, 0, 0, "abgh");
        c.due("chunk(0, 5)", x.chunk(0, 5), 0);
        c.due("a forgotten one is known yet", x.chunk(1, 0), 2);
        c.due("its lease does not hold", x.chunk(1, 2), Checks.NONE);
    }

    private static void server() {
        c.about("promise 18");
        GreatChunks x = Checks.with("h3,3,4,5,2;s3;s7;s9;f1;f1;f1;f1;f4;");
        c.due("server(-1, 0)", x.server(-1, 0), Checks.BAD);
        c.due("server(3, 0)", x.server(3, 0), Checks.BAD);
        c.due("server(0, -1)", x.server(0, -1), Checks.BAD);
        c.due("server(0, 7)", x.server(0, 7), Checks.BAD);
        for (int f = 0; f < 5; f++) {
            Checks.append(x, f, "a");
        }
        x.spoil(2, 4);
        x.remove(4);
        x.spoil(1, 1);
        x.put(0, 0, 'b');
        int[][] want = {{1, 3, 5, 0, 1, 0, 1666}, {1, 7, 5, 1, 1, 0, 714}, {1, 9, 5, 1, 1, 3, 555}};
        for (int s = 0; s < 3; s++) {
            for (int what = 0; what < 7; what++) {
                c.due("server(" + s + ", " + what + ")", x.server(s, what), want[s][what]);
            }
        }
        x.down(1);
        c.due("server(1, 0)", x.server(1, 0), 0);
        c.due("server(1, 6)", x.server(1, 6), 714);
    }
}
