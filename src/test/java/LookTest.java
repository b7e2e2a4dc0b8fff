/** Promises 19 and 21 to 24: chunk, part, read, find, sums. */
public final class LookTest {
    private static final Checks c = new Checks("LookTest");

    public static void main(String[] args) {
        chunk();
        part();
        read();
        find();
        sums();
        c.end();
    }

    private static void chunk() {
        c.about("promise 19");
        GreatChunks x = new GreatChunks();
        c.due("chunk without house", x.chunk(0, 0), Checks.BAD);
        x = Checks.with("h3,2,4,5,2;f1;");
        c.due("not made", x.chunk(0, 0), Checks.BAD);
        Checks.append(x, 0, "ab");
        c.due("chunk(-1, 0)", x.chunk(-1, 0), Checks.BAD);
        c.due("chunk(1, 0)", x.chunk(1, 0), Checks.BAD);
        c.due("chunk(0, -1)", x.chunk(0, -1), Checks.BAD);
        c.due("chunk(0, 7)", x.chunk(0, 7), Checks.BAD);
        int[] want = {2, 1, 0, 5, 3, 0, 3};
        for (int what = 0; what < 7; what++) {
            c.due("chunk(0, " + what + ")", x.chunk(0, what), want[what]);
        }
        x.down(1);
        x.put(0, 0, 'z');
        x.up(1);
        x.down(0);
        int[] then = {3, 1, Checks.NONE, Checks.NONE, 1, 2, 0};
        for (int what = 0; what < 7; what++) {
            c.due("then chunk(0, " + what + ")", x.chunk(0, what), then[what]);
        }
        x.up(0);
        c.due("the holder is up again", x.chunk(0, 2), 0);
        c.due("till", x.chunk(0, 3), 5);
    }

    private static void part() {
        c.about("promise 21");
        GreatChunks x = new GreatChunks();
        c.due("part without house", x.part(0, 0, 0), Checks.BAD);
        x = Checks.with("h3,2,5,5,2;f1;");
        c.due("no chunk", x.part(0, 0, 0), Checks.BAD);
        Checks.append(x, 0, "abc");
        Checks.append(x, 0, "def");
        c.due("part(-1, 0, 0)", x.part(-1, 0, 0), Checks.BAD);
        c.due("part(3, 0, 0)", x.part(3, 0, 0), Checks.BAD);
        c.due("part(0, 2, 0)", x.part(0, 2, 0), Checks.BAD);
        c.due("part(0, -1, 0)", x.part(0, -1, 0), Checks.BAD);
        c.due("part(0, 0, 2)", x.part(0, 0, 2), Checks.BAD);
        c.due("part(0, 0, -1)", x.part(0, 0, -1), Checks.BAD);
        c.due("part(0, 0, 9)", x.part(0, 0, 9), Checks.BAD);
        c.due("part(0, 0, 15)", x.part(0, 0, 15), Checks.BAD);
        c.due("no copy: part(2, 0, 15)", x.part(2, 0, 15), Checks.BAD);
        c.due("no copy: part(2, 0, 0)", x.part(2, 0, 0), Checks.NONE);
        c.due("no copy: part(2, 0, 1)", x.part(2, 0, 1), Checks.NONE);
        c.due("no copy: part(2, 0, 10)", x.part(2, 0, 10), Checks.NONE);
        c.due("part(0, 0, 0)", x.part(0, 0, 0), 2);
        c.due("part(0, 0, 1)", x.part(0, 0, 1), 5);
        c.due("part(0, 0, 10)", x.part(0, 0, 10), 'a');
        c.due("part(0, 0, 13)", x.part(0, 0, 13), 0);
        c.due("part(0, 0, 14)", x.part(0, 0, 14), 0);
        c.due("part(2, 1, 14)", x.part(2, 1, 14), Checks.NONE);
        x.down(1);
        c.due("a server that is down", x.part(1, 0, 12), 'c');
    }

    private static void read() {
        c.about("promise 22");
        GreatChunks x = new GreatChunks();
        c.due("read without house", x.read(9, 9, 9), Checks.STATE);
        x = Checks.with("h3,2,4,5,2;f1;");
        c.due("read(-1, 0, 0)", x.read(-1, 0, 0), Checks.BAD);
        c.due("read(6, 0, 0)", x.read(6, 0, 0), Checks.BAD);
        c.due("read(1, -1, 0): STATE ahead of BAD of i", x.read(1, -1, 0), Checks.STATE);
        c.due("read(1, 0, 3): BAD of the server", x.read(1, 0, 3), Checks.BAD);
        c.due("read(0, 0, 0), no chunk", x.read(0, 0, 0), Checks.BAD);
        Checks.append(x, 0, "abc");
        Checks.append(x, 0, "de");
        c.due("read(0, -1, 0)", x.read(0, -1, 0), Checks.BAD);
        c.due("read(0, 8, 0)", x.read(0, 8, 0), Checks.BAD);
        c.due("read(0, 0, -1)", x.read(0, 0, -1), Checks.BAD);
        c.due("read(0, 0, 3)", x.read(0, 0, 3), Checks.BAD);
        c.due("read(0, 2, 1)", x.read(0, 2, 1), 'c');
        c.due("a pad", x.read(0, 3, 0), 0);
        c.due("read(0, 5, 2)", x.read(0, 5, 2), 'e');
        c.due("empty", x.read(0, 6, 2), Checks.NONE);
        c.due("no copy there", x.read(0, 0, 2), Checks.NONE);
        x.down(2);
        c.due("DOWN ahead of NONE", x.read(0, 0, 2), Checks.DOWN);
        x.down(1);
        x.put(0, 0, 'z');
        c.due("DOWN ahead of STALE", x.read(0, 0, 1), Checks.DOWN);
        x.up(1);
        c.due("stale", x.read(0, 0, 1), Checks.STALE);
        c.due("stale, though the cell is like", x.read(0, 2, 1), Checks.STALE);
        c.due("good", x.read(0, 0, 0), 'z');
        x.remove(0);
        c.due("hidden", x.read(0, 0, 0), Checks.STATE);
    }

    private static void find() {
        c.about("promise 23");
        GreatChunks x = new GreatChunks();
        c.due("find without house", Checks.find(x, 9, "a"), Checks.STATE);
        c.due("the tape is empty", x.count(6), 0);
        x = Checks.with("h3,2,5,5,2;f1;f1;");
        c.due("find(-1)", Checks.find(x, -1, "a"), Checks.BAD);
        c.due("find(6)", Checks.find(x, 6, "a"), Checks.BAD);
        c.due("no record", Checks.find(x, 0, ""), Checks.BAD);
        c.due("too long", Checks.find(x, 0, "aaaaaa"), Checks.BAD);
        c.due("a figure", Checks.find(x, 0, "a0"), Checks.BAD);
        c.due("the tape is empty", x.count(6), 0);
        c.due("BAD ahead of STATE", Checks.find(x, 3, "a0"), Checks.BAD);
        c.due("not there", Checks.find(x, 3, "a"), Checks.STATE);
        c.due("no chunks", Checks.find(x, 0, "a"), 0);
        Checks.append(x, 0, "aaaa");
        Checks.append(x, 0, "aab");
        Checks.append(x, 0, "aa");
        c.due("one that overlaps", Checks.find(x, 0, "aa"), 5);
        c.due("within one chunk each", Checks.find(x, 0, "abaa"), 1);
        c.due("whole", Checks.find(x, 0, "aaaaa"), 0);
        c.due("at the end of the tape", Checks.find(x, 0, "baa"), 1);
        c.due("not there", Checks.find(x, 0, "c"), 0);
        c.due("the tape is empty", x.count(6), 0);
        findAtTheLeastAble();
        findAcross();
    }

    private static void findAtTheLeastAble() {
        GreatChunks x = Checks.with("h2,2,6,5,2;f1;");
        Checks.append(x, 0, "q");
        x.spoil(1, 1);
        Checks.append(x, 0, "ab");
        c.due("twice at the least able server", Checks.find(x, 0, "ab"), 2);
        x.down(0);
        c.due("once at the other", Checks.find(x, 0, "ab"), 1);
        x.down(1);
        c.due("not readable", Checks.find(x, 0, "ab"), Checks.LOST);
        c.due("count(5)", x.count(5), 5);
    }

    private static void findAcross() {
        GreatChunks x = Checks.with("h2,1,4,5,2;f1;");
        Checks.append(x, 0, "abcd");
        Checks.append(x, 0, "abcd");
        c.due("not across chunks", Checks.find(x, 0, "da"), 0);
        c.due("in each", Checks.find(x, 0, "abcd"), 2);
        x.down(1);
        c.due("one of two is not readable", Checks.find(x, 0, "a"), Checks.LOST);
    }

    private static void sums() {
        c.about("promise 24");
        GreatChunks x = new GreatChunks();
        c.due("sums without house", x.sums(-1), Checks.STATE);
        x = Checks.with("h3,2,4,5,2;f1;f4;");
        c.due("sums(-1)", x.sums(-1), Checks.BAD);
        c.due("sums(7)", x.sums(7), Checks.BAD);
        Checks.append(x, 0, "abc");
        Checks.append(x, 0, "de");
        Checks.append(x, 1, "fg");
        x.tick(2);
        int[] want = {2, 3, 0, 6, 0, 14, 2};
        for (int what = 0; what < 7; what++) {
            c.due("sums(" + what + ")", x.sums(what), want[what]);
        }
        x.down(1);
        x.put(0, 0, 'z');
        x.remove(1);
        int[] then = {2, 3, 1, 6, 1, 11, 1};
        for (int what = 0; what < 7; what++) {
            c.due("then sums(" + what + ")", x.sums(what), then[what]);
        }
        x.spoil(0, 1);
        x.put(0, 1, 'y');
        c.due("stale at all servers", x.sums(4), 2);
        x = Checks.with("h2,2,4,5,2;f4;f1;");
        Checks.append(x, 0, "abc");
        x.remove(0);
        c.due("the first chunk is forgotten", x.sums(2), 1);
        c.due("copies of forgotten chunks", x.server(0, 4), 1);
        c.due("their letters count", x.sums(5), 6);
    }
}
