/** The edges of the terms SERVERS, SPOILT, LOAD, BEST, BEAT, MENDED, and of promises 13 to 18, 26 and 29. */
public final class ServerEdgesTest {
    private static final Checks c = new Checks("ServerEdgesTest");

    public static void main(String[] args) {
        allDownAndUp();
        spoiltJustSoOften();
        spoiltByPut();
        notToWrite();
        spoilAnswers();
        loadOfAllCopies();
        loadAsWhole();
        loadOfThirty();
        bestOfEqual();
        bestByFloats();
        beatOfForgotten();
        beatOfStale();
        mendFewer();
        mendTaker();
        mendGiver();
        mendForgotten();
        mendMost();
        mendInPlace();
        mendsOneBehindTheOther();
        targets();
        c.end();
    }

    private static void allDownAndUp() {
        c.about("down, up: how many are UP, till none is and all are");
        for (int servers = 2; servers <= 5; servers++) {
            GreatChunks x = Checks.with("h" + servers + ",3,4,5,2;f1;");
            for (int s = servers - 1; s >= 0; s--) {
                c.due("up(" + s + "), it is UP", x.up(s), Checks.STATE);
                c.due("down(" + s + ")", x.down(s), s);
                c.due("down(" + s + "), it is DOWN", x.down(s), Checks.STATE);
                c.due("count(1)", x.count(1), s);
                c.due("beat(" + s + ")", x.beat(s), Checks.STATE);
                c.due("server(" + s + ", 0)", x.server(s, 0), 0);
            }
            c.due("down beyond", x.down(servers), Checks.BAD);
            c.due("up beyond", x.up(servers), Checks.BAD);
            c.due("mend of none", x.mend(), Checks.NONE);
            c.due("target of none", x.target(3), 0);
            for (int s = 0; s < servers; s++) {
                c.due("up(" + s + ")", x.up(s), s + 1);
                c.due("server(" + s + ", 0)", x.server(s, 0), 1);
            }
        }
    }

    private static void spoiltJustSoOften() {
        c.about("SPOILT by n: the next n times that it is to write it fails, n is 1 less each time");
        for (int n = 0; n <= 9; n++) {
            GreatChunks ofHolder = Checks.with("h2,2,9,5,2;f1;");
            GreatChunks ofOther = Checks.with("h2,2,9,5,2;f1;");
            ofHolder.spoil(0, n);
            ofOther.spoil(1, n);
            int wantHolder = n < 3 ? 0 : Checks.FAILED;
            int wantOther = n < 3 ? n : Checks.FAILED;
            c.due("holder by " + n, Checks.append(ofHolder, 0, "a"), wantHolder);
            c.due("other by " + n, Checks.append(ofOther, 0, "a"), wantOther);
            c.due("left of " + n, ofHolder.server(0, 5), Math.max(0, n - 3));
            c.due("left of " + n, ofOther.server(1, 5), Math.max(0, n - 3));
            c.due("holder wrote", ofHolder.part(0, 0, 1), n < 3 ? 1 : 0);
            c.due("the other as the holder", ofHolder.part(1, 0, 1), n < 3 ? 1 : 0);
            c.due("holder wrote each time", ofOther.part(0, 0, 1), n < 3 ? n + 1 : 3);
            c.due("the other wrote last", ofOther.part(1, 0, 1), n < 3 ? n + 1 : 0);
        }
    }

    private static void spoiltByPut() {
        c.about("PUT: one that is SPOILT fails, once a put");
        GreatChunks x = Checks.with("h3,3,4,5,2;f1;");
        Checks.append(x, 0, "abcd");
        x.spoil(2, 9);
        c.due("put", x.put(0, 0, 'z'), 2);
        c.due("1 less", x.server(2, 5), 8);
        c.due("put again: its COPY is STALE, it is not to write", x.put(0, 0, 'y'), 2);
        c.due("as it was", x.server(2, 5), 8);
        x.spoil(2, 1);
        x.mend();
        c.due("put behind mend", x.put(0, 0, 'x'), 2);
        c.due("none left", x.server(2, 5), 0);
        x.mend();
        c.due("put", x.put(0, 0, 'w'), 3);
    }

    private static void notToWrite() {
        c.about("SPOILT: what is no writing uses nothing up");
        GreatChunks x = Checks.with("h3,2,4,5,2;f1;");
        x.spoil(0, 9);
        x.spoil(1, 1);
        x.spoil(2, 9);
        x.down(0);
        x.down(2);
        c.due("a NEW CHUNK comes, the second TRY writes", Checks.append(x, 0, "abc"), 0);
        c.due("server(1, 5)", x.server(1, 5), 0);
        x.up(2);
        c.due("MENDED at a SPOILT one", x.mend(), 0);
        c.due("server(2, 5)", x.server(2, 5), 9);
        c.dueCells(x, 2, 0, "abc.");
        x.spoil(2, 1);
        c.due("padding is none, the TRY is one", Checks.append(x, 0, "de"), 6);
        c.dueCells(x, 2, 0, "abc_");
        c.dueCells(x, 1, 1, "dede");
        c.dueCells(x, 2, 1, "..de");
        c.due("server(2, 5)", x.server(2, 5), 0);
        c.due("server(0, 5)", x.server(0, 5), 9);
        x.spoil(1, 3);
        x.both(0, 3);
        x.beat(1);
        x.read(0, 0, 1);
        Checks.find(x, 0, "de");
        x.tick(9);
        x.remove(3);
        x.bring(3);
        c.due("nor is any of these", x.server(1, 5), 3);
        x.drawn(12, 5, 0);
        c.due("nor what is foretold", x.server(1, 5), 3);
    }

    private static void spoilAnswers() {
        c.about("spoil: by what it was");
        GreatChunks x = Checks.with("h2,2,4,5,2;f1;");
        int was = 0;
        for (int n = 0; n <= 9; n++) {
            c.due("spoil(1, " + n + ")", x.spoil(1, n), was);
            c.due("server(1, 5)", x.server(1, 5), n);
            c.due("server(0, 5)", x.server(0, 5), 0);
            was = n;
        }
        c.due("spoil(1, 0)", x.spoil(1, 0), 9);
        c.due("server(1, 5)", x.server(1, 5), 0);
    }

    private static void loadOfAllCopies() {
        c.about("LOAD: its COPIES (all that lie there): STALE, of FORGOTTEN CHUNKS, those of a SERVER that is DOWN");
        GreatChunks x = Checks.with("h2,2,4,5,2;s4;s4;f4;f1;");
        c.due("none", x.server(0, 6), 0);
        Checks.append(x, 0, "a");
        x.remove(0);
        c.due("of a FORGOTTEN CHUNK", x.server(0, 6), 250);
        Checks.append(x, 1, "a");
        x.spoil(0, 1);
        x.put(1, 0, 'b');
        c.due("STALE", x.server(0, 3), 1);
        c.due("two of four", x.server(0, 6), 500);
        x.down(0);
        c.due("DOWN", x.server(0, 6), 500);
        x.up(0);
        c.due("thrown away", x.beat(0), 2);
        c.due("none", x.server(0, 6), 0);
        c.due("server(1, 6)", x.server(1, 6), 500);
    }

    /** So many chunks, each with a copy at server 0 alone. */
    private static GreatChunks copiesAtFirst(int many, int room) {
        GreatChunks x = Checks.with("h2,1,4,5,2;s" + room + ";f4;");
        x.down(1);
        for (int i = 0; i < many; i++) {
            x.create(0, 4);
            Checks.append(x, 0, "a");
            x.remove(0);
        }
        return x;
    }

    private static void loadAsWhole() {
        c.about("server(.., 6): LOAD times 1000 (floats both), as a whole number, cut");
        int[][] cases = {{1, 1, 1000}, {1, 2, 500}, {1, 3, 333}, {2, 3, 666}, {1, 6, 166}, {5, 6, 833}, {1, 7, 142}, {6, 7, 857},
            {1, 8, 125}, {7, 8, 875}, {1, 9, 111}, {8, 9, 888}, {9, 9, 1000}, {10, 9, 1111}, {7, 5, 1400}, {9, 5, 1800},
            {13, 5, 2600}, {14, 5, 2800}, {21, 5, 4200}, {28, 5, 5600}, {29, 7, 4142}, {30, 7, 4285}};
        for (int[] one : cases) {
            GreatChunks x = copiesAtFirst(one[0], one[1]);
            c.due(one[0] + " COPIES by " + one[1], x.server(0, 6), one[2]);
            c.due("server(0, 2)", x.server(0, 2), one[0]);
            c.due("server(0, 4)", x.server(0, 4), one[0]);
            c.due("server(1, 6)", x.server(1, 6), 0);
        }
    }

    private static void loadOfThirty() {
        c.about("30 COPIES at one SERVER");
        GreatChunks x = copiesAtFirst(30, 1);
        c.due("server(0, 6)", x.server(0, 6), 30000);
        c.due("sums(3)", x.sums(3), 30);
        c.due("beat(0)", x.beat(0), 30);
        c.due("server(0, 2)", x.server(0, 2), 0);
        c.due("sums(1), CHUNKS were made yet", x.sums(1), 30);
        c.due("sums(2)", x.sums(2), 30);
    }

    private static void bestOfEqual() {
        c.about("BEST: of the least LOAD, of several the least number");
        GreatChunks x = Checks.with("h5,1,4,5,2;f1;f1;f1;f1;f1;f1;");
        for (int f = 0; f < 5; f++) {
            c.due("target(1)", x.target(1), 1 << f);
            Checks.append(x, f, "a");
            c.due("chunk(" + f + ", 4)", x.chunk(f, 4), 1 << f);
        }
        c.due("all are alike again", x.target(1), 1);
        c.due("and of three", x.target(3), 3);
        x.down(0);
        c.due("the least number of those that are UP", x.target(5), 2);
    }

    /** 1 by 3 and 3 by 9 are one float; so are 2 by 6 and 1 by 3. */
    private static void bestByFloats() {
        c.about("LOAD as a float");
        GreatChunks x = Checks.with("h2,1,4,5,2;s9;s3;f4;f4;");
        int[] where = {1, 2, 1, 1};
        for (int i = 0; i < 4; i++) {
            c.due("target(4)", x.target(4), where[i]);
            x.create(0, 4);
            Checks.append(x, 0, "a");
            x.remove(0);
        }
        c.due("server(0, 6)", x.server(0, 6), 333);
        c.due("server(1, 6)", x.server(1, 6), 333);
        c.due("3 by 9 and 1 by 3 are the same", x.target(4), 1);
        x.create(0, 4);
        Checks.append(x, 0, "a");
        c.due("4 by 9 is more than 1 by 3", x.target(4), 2);
    }

    private static void beatOfForgotten() {
        c.about("BEAT: of FORGOTTEN CHUNKS: of none, not of HIDDEN files");
        GreatChunks x = Checks.with("h2,2,4,5,3;f1;f4;");
        Checks.append(x, 0, "a");
        Checks.append(x, 1, "b");
        x.both(1, 2);
        x.remove(1);
        c.due("one SHARE is left", x.beat(0), 0);
        x.remove(0);
        c.due("HIDDEN", x.beat(0), 0);
        c.due("tick(2)", x.tick(2), 0);
        c.due("HIDDEN yet", x.beat(0), 0);
        c.due("tick(1)", x.tick(1), 1);
        c.due("GONE", x.beat(0), 1);
        c.due("server(1, 4), the other has it yet", x.server(1, 4), 1);
        x.remove(2);
        c.due("both", x.beat(1), 2);
        c.due("one", x.beat(0), 1);
        c.due("none", x.beat(0), 0);
    }

    private static void beatOfStale() {
        c.about("BEAT: COPIES that are STALE; GOOD ones stay");
        GreatChunks x = Checks.with("h3,3,4,5,3;f1;");
        Checks.append(x, 0, "abcd");
        Checks.append(x, 0, "efgh");
        x.spoil(1, 1);
        x.put(0, 0, 'z');
        c.due("beat(0)", x.beat(0), 0);
        c.due("beat(1)", x.beat(1), 1);
        c.due("part(1, 0, 0)", x.part(1, 0, 0), Checks.NONE);
        c.due("part(1, 1, 0)", x.part(1, 1, 0), 2);
        c.due("read(0, 0, 1)", x.read(0, 0, 1), Checks.NONE);
        c.due("read(0, 4, 1)", x.read(0, 4, 1), 'e');
    }

    private static void mendFewer() {
        c.about("MENDED: fewer than the most COPIES WANTED");
        for (int wanted = 1; wanted <= 3; wanted++) {
            GreatChunks x = Checks.with("h5," + wanted + ",4,5,3;f1;");
            Checks.append(x, 0, "ab");
            c.due("as many as WANTED", x.mends(), 0);
            c.due("mend()", x.mend(), Checks.NONE);
            x.down(wanted - 1);
            c.due("one fewer, and none at all", x.mends(), wanted == 1 ? 0 : 1);
            c.due("mend()", x.mend(), wanted == 1 ? Checks.NONE : 0);
            x.up(wanted - 1);
            c.due("one more", x.mends(), 0);
            c.due("chunk(0, 6)", x.chunk(0, 6), wanted == 1 ? 1 : (1 << wanted + 1) - 1);
        }
    }

    private static void mendTaker() {
        c.about("MENDED: an UP SERVER that is not ABLE, the BEST of these");
        GreatChunks x = Checks.with("h4,3,4,5,3;s1;s1;s1;s1;f1;f5;");
        x.down(2);
        x.down(3);
        Checks.append(x, 0, "ab");
        c.due("none to take", x.mend(), Checks.NONE);
        x.up(3);
        c.due("mend()", x.mend(), 0);
        c.due("chunk(0, 4)", x.chunk(0, 4), 11);
        x.up(2);
        c.due("three are ABLE", x.mend(), Checks.NONE);
        x.undo();
        x.undo();
        x.up(2);
        c.due("mend(): 2 ahead of 3", x.mend(), 0);
        c.due("chunk(0, 4)", x.chunk(0, 4), 7);
        x.undo();
        Checks.append(x, 1, "a");
        c.due("the SINGLE one lies at 2", x.chunk(1, 4), 4);
        c.due("mend(): 3 is less full", x.mend(), 0);
        c.due("chunk(0, 4)", x.chunk(0, 4), 11);
    }

    private static void mendGiver() {
        c.about("MENDED: has some ABLE SERVER; a COPY like that at the least one");
        GreatChunks x = Checks.with("h3,2,4,5,3;f1;");
        Checks.append(x, 0, "a");
        x.spoil(1, 1);
        c.due("a TRY that failed at 1", Checks.append(x, 0, "b"), 2);
        c.dueCells(x, 0, 0, "abb.");
        c.dueCells(x, 1, 0, "a.b.");
        x.down(0);
        c.due("mend()", x.mend(), 0);
        c.dueCells(x, 2, 0, "a.b.");
        c.due("part(2, 0, 1)", x.part(2, 0, 1), 3);
        c.due("part(2, 0, 0)", x.part(2, 0, 0), 2);
        x.down(1);
        x.down(2);
        x.up(2);
        c.due("one gives, none takes", x.mend(), Checks.NONE);
        x.down(2);
        c.due("none is UP", x.mend(), Checks.NONE);
        x.up(1);
        x.spoil(1, 1);
        c.due("all fail", x.put(0, 0, 'z'), Checks.LOST);
        x.up(0);
        c.due("all COPIES are STALE: none gives", x.mend(), Checks.NONE);
        c.due("mends()", x.mends(), 0);
    }

    private static void mendForgotten() {
        c.about("MENDED: the first CHUNK (by number) that is not FORGOTTEN");
        GreatChunks x = Checks.with("h3,2,4,5,3;f4;f1;f1;");
        Checks.append(x, 0, "a");
        Checks.append(x, 1, "b");
        Checks.append(x, 2, "c");
        x.down(0);
        c.due("chunk(0, 4)", x.chunk(0, 4), 3);
        c.due("chunk(1, 4)", x.chunk(1, 4), 5);
        c.due("chunk(2, 4)", x.chunk(2, 4), 6);
        c.due("mends()", x.mends(), 2);
        x.remove(0);
        c.due("mends() of one less", x.mends(), 1);
        c.due("mend(): not the FORGOTTEN 0", x.mend(), 1);
        c.due("mend()", x.mend(), Checks.NONE);
    }

    private static void mendMost() {
        c.about("MENDED: the most COPIES WANTED of any FILE that has it");
        GreatChunks x = Checks.with("h5,3,4,5,3;f3;f5;f1;");
        Checks.append(x, 0, "a");
        Checks.append(x, 1, "a");
        Checks.append(x, 2, "a");
        c.due("four of a WIDE one", x.chunk(0, 4), 15);
        c.due("one of a SINGLE one", x.chunk(1, 4), 16);
        c.due("three", x.chunk(2, 4), 7);
        c.due("mends()", x.mends(), 0);
        x.down(0);
        c.due("the WIDE one and the plain one", x.mends(), 2);
        c.due("mend()", x.mend(), 0);
        c.due("five COPIES, four ABLE", x.chunk(0, 4), 31);
        c.due("mend()", x.mend(), 2);
        c.due("mend()", x.mend(), Checks.NONE);
        x.up(0);
        c.due("five ABLE", x.chunk(0, 6), 31);
        c.due("strength(0)", x.strength(0), 4);
    }

    private static void mendInPlace() {
        c.about("MENDED: in place of a STALE one");
        GreatChunks x = Checks.with("h2,2,4,5,3;f1;");
        Checks.append(x, 0, "abcd");
        x.spoil(0, 1);
        x.put(0, 1, 'z');
        c.due("part(0, 0, 0)", x.part(0, 0, 0), 0);
        c.due("sums(3)", x.sums(3), 2);
        c.due("mend()", x.mend(), 0);
        c.due("sums(3)", x.sums(3), 2);
        c.due("sums(4)", x.sums(4), 0);
        c.due("part(0, 0, 0)", x.part(0, 0, 0), 3);
        c.dueCells(x, 0, 0, "azcd");
    }

    private static void mendsOneBehindTheOther() {
        c.about("mends: how many times mend() would answer a CHUNK");
        GreatChunks x = Checks.with("h5,3,4,5,3;f3;f1;f4;");
        for (int s = 1; s < 5; s++) {
            x.down(s);
        }
        for (int f = 0; f < 3; f++) {
            for (int k = 0; k < 4; k++) {
                Checks.append(x, f, "abcd");
            }
        }
        c.due("none takes", x.mends(), 0);
        x.up(4);
        c.due("one takes", x.mends(), 12);
        x.up(3);
        c.due("two take", x.mends(), 24);
        x.up(2);
        c.due("three take", x.mends(), 28);
        x.up(1);
        c.due("four take", x.mends(), 28);
        c.due("nothing changed", x.sums(3), 12);
        int times = 0;
        while (times < 99 && x.mend() >= 0) {
            times++;
        }
        c.due("mend() so many times", times, 28);
        c.due("sums(3)", x.sums(3), 40);
        c.due("mends()", x.mends(), 0);
    }

    private static void targets() {
        c.about("target: SERVERS at which COPIES of a NEW CHUNK would lie");
        for (int wanted = 1; wanted <= 3; wanted++) {
            GreatChunks x = Checks.with("h5," + wanted + ",4,5,3;");
            int plain = (1 << wanted) - 1;
            int[] want = {plain, plain, 2 * plain + 1, plain, 1};
            for (int kind = 1; kind <= 5; kind++) {
                c.due("target(" + kind + ") of " + wanted, x.target(kind), want[kind - 1]);
                x.create(0, kind);
                Checks.append(x, 0, "a");
                c.due("chunk(0, 4)", x.chunk(0, 4), want[kind - 1]);
                x.undo();
                x.undo();
            }
        }
        GreatChunks x = Checks.with("h2,3,4,5,3;");
        c.due("fewer SERVERS than WANTED", x.target(3), 3);
        x.down(0);
        c.due("one", x.target(3), 2);
    }
}
