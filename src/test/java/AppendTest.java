/** Promise 7: append, with the leases, the tries, the padding and the chunks that it makes. */
public final class AppendTest {
    private static final Checks c = new Checks("AppendTest");

    public static void main(String[] args) {
        refusals();
        padding();
        fullFile();
        thirtyChunks();
        lost();
        spoiltHolder();
        spoiltOther();
        threeTries();
        triesAcrossChunks();
        downOther();
        thirdTryEndsLease();
        leases();
        owned();
        wide();
        c.end();
    }

    private static void refusals() {
        c.about("refusals");
        GreatChunks x = new GreatChunks();
        c.due("no house", Checks.append(x, 0, "a"), Checks.STATE);
        c.due("the tape is empty", x.count(6), 0);
        x = Checks.with("h2,2,4,5,2;f1;");
        c.due("file -1", Checks.append(x, -1, "a"), Checks.BAD);
        c.due("file 6", Checks.append(x, 6, "a"), Checks.BAD);
        c.due("no record", Checks.append(x, 0, ""), Checks.BAD);
        c.due("too long", Checks.append(x, 0, "abcde"), Checks.BAD);
        c.due("a figure", Checks.append(x, 0, "a1"), Checks.BAD);
        c.due("the tape is empty", x.count(6), 0);
        c.due("a great letter", Checks.append(x, 0, "A"), Checks.BAD);
        c.due("` and {", Checks.append(x, 0, "`") + Checks.append(x, 0, "{"), 2 * Checks.BAD);
        c.due("BAD ahead of STATE", Checks.append(x, 1, "A"), Checks.BAD);
        c.due("not there", Checks.append(x, 1, "a"), Checks.STATE);
        c.due("the tape is empty", x.count(6), 0);
        c.due("no act", x.count(5), 0);
        c.due("as long as can be", Checks.append(x, 0, "azaz"), 0);
        c.due("the tape is empty", x.count(6), 0);
        x.remove(0);
        c.due("hidden", Checks.append(x, 0, "a"), Checks.STATE);
    }

    private static void padding() {
        c.about("padding");
        GreatChunks x = Checks.with("h2,2,5,5,2;f1;");
        c.due("first", Checks.append(x, 0, "abc"), 0);
        c.due("second", Checks.append(x, 0, "de"), 3);
        c.due("third", Checks.append(x, 0, "fgh"), 5);
        c.due("fourth", Checks.append(x, 0, "ijk"), 10);
        c.dueCells(x, 0, 0, "abcde");
        c.dueCells(x, 0, 1, "fgh__");
        c.dueCells(x, 1, 1, "fgh__");
        c.dueCells(x, 1, 2, "ijk..");
        c.due("filled", x.part(1, 1, 1), 5);
        c.due("filled", x.part(1, 2, 1), 3);
        c.due("pads", x.sums(6), 4);
        // A server that is down keeps its copy good, but gets no pad.
        x.down(1);
        c.due("fifth", Checks.append(x, 0, "lmn"), 15);
        c.dueCells(x, 0, 2, "ijk__");
        c.dueCells(x, 1, 2, "ijk..");
        c.due("good both", x.chunk(2, 4), 3);
    }

    private static void fullFile() {
        c.about("four chunks of a file");
        GreatChunks x = Checks.with("h2,2,4,5,2;f1;");
        for (int i = 0; i < 3; i++) {
            c.due("append " + i, Checks.append(x, 0, "abcd"), 4 * i);
        }
        c.due("the fourth", Checks.append(x, 0, "efg"), 12);
        c.due("count(5)", x.count(5), 4);
        c.due("one too many", Checks.append(x, 0, "hi"), Checks.FULL);
        c.due("the act is kept", x.count(5), 5);
        c.dueCells(x, 0, 3, "efg_");
        c.due("filled", x.part(1, 3, 1), 4);
        c.due("one letter has no room now", Checks.append(x, 0, "h"), Checks.FULL);
        c.due("undo()", x.undo(), 5);
        c.due("undo()", x.undo(), 4);
        c.dueCells(x, 0, 3, "efg.");
        c.due("it has now", Checks.append(x, 0, "h"), 15);
    }

    private static void thirtyChunks() {
        c.about("thirty chunks");
        GreatChunks x = Checks.with("h2,2,4,5,2;f1;");
        x.create(1, 4);
        Checks.append(x, 0, "abc");
        for (int i = 1; i < 30; i++) {
            x.create(1, 4);
            c.due("chunk " + i, Checks.append(x, 1, "ab"), 0);
            x.remove(1);
        }
        c.due("sums(1)", x.sums(1), 30);
        c.due("sums(2)", x.sums(2), 29);
        x.create(1, 4);
        c.due("no chunk more", Checks.append(x, 1, "ab"), Checks.FULL);
        c.due("file(1, 2)", x.file(1, 2), 0);
        x.down(0);
        x.down(1);
        c.due("FULL ahead of LOST", Checks.append(x, 1, "ab"), Checks.FULL);
        x.up(0);
        x.up(1);
        c.due("room in the last", Checks.append(x, 0, "d"), 3);
        c.due("none behind", Checks.append(x, 0, "d"), Checks.FULL);
        c.due("both(0, 2)", x.both(0, 2), 1);
        c.due("not owned", Checks.append(x, 2, "d"), Checks.FULL);
        c.due("put is not owned", x.put(2, 0, 'z'), Checks.FULL);
        c.due("chunk(0, 1)", x.chunk(0, 1), 2);
    }

    private static void lost() {
        c.about("lost");
        GreatChunks x = Checks.with("h2,2,4,5,2;f1;f1;");
        Checks.append(x, 0, "ab");
        x.down(0);
        x.down(1);
        c.due("count(5)", x.count(5), 3);
        c.due("no server for a new chunk", Checks.append(x, 1, "ab"), Checks.LOST);
        c.due("the act is kept", x.count(5), 4);
        c.due("file(1, 2)", x.file(1, 2), 0);
        c.due("sums(1)", x.sums(1), 1);
        c.due("no server for a lease", Checks.append(x, 0, "ab"), Checks.LOST);
        c.due("the act is kept", x.count(5), 5);
        c.due("version", x.chunk(0, 0), 2);
        c.due("good yet", x.chunk(0, 4), 3);
        x.both(0, 2);
        c.due("no server for an own chunk", Checks.append(x, 2, "a"), Checks.LOST);
        c.due("sums(1)", x.sums(1), 1);
        x.up(1);
        c.due("append", Checks.append(x, 0, "cd"), 2);
        c.due("file(0, 10)", x.file(0, 10), 1);
        c.due("only at the able one", x.chunk(1, 4), 2);
    }

    private static void spoiltHolder() {
        c.about("a spoilt holder");
        GreatChunks x = Checks.with("h2,2,9,5,2;f1;");
        x.spoil(0, 2);
        c.due("append", Checks.append(x, 0, "ab"), 0);
        c.due("spoilt", x.server(0, 5), 0);
        c.dueCells(x, 0, 0, "ab.......");
        c.dueCells(x, 1, 0, "ab.......");
        x.spoil(0, 4);
        c.due("append", Checks.append(x, 0, "cd"), Checks.FAILED);
        c.due("spoilt", x.server(0, 5), 1);
        c.dueCells(x, 1, 0, "ab.......");
        c.due("the act is kept", x.count(5), 4);
    }

    private static void spoiltOther() {
        c.about("another that is spoilt");
        GreatChunks x = Checks.with("h3,3,9,5,2;f1;");
        Checks.append(x, 0, "ab");
        x.spoil(1, 1);
        c.due("append", Checks.append(x, 0, "cd"), 4);
        c.dueCells(x, 0, 0, "abcdcd...");
        c.dueCells(x, 1, 0, "ab..cd...");
        c.dueCells(x, 2, 0, "abcdcd...");
        c.due("filled", x.part(1, 0, 1), 6);
        c.due("all good yet", x.chunk(0, 4), 7);
        c.due("the version is as it was", x.chunk(0, 0), 2);
        c.due("found", Checks.find(x, 0, "cd"), 2);
    }

    private static void threeTries() {
        c.about("three tries");
        GreatChunks x = Checks.with("h2,2,9,5,2;f1;");
        x.spoil(1, 4);
        c.due("append", Checks.append(x, 0, "ab"), Checks.FAILED);
        c.due("spoilt", x.server(1, 5), 1);
        c.dueCells(x, 0, 0, "ababab...");
        c.dueCells(x, 1, 0, ".........");
        c.due("filled", x.part(0, 0, 1), 6);
        c.due("filled", x.part(1, 0, 1), 0);
        x.spoil(1, 0);
        c.due("append", Checks.append(x, 0, "c"), 6);
        c.dueCells(x, 1, 0, "......c..");
    }

    private static void triesAcrossChunks() {
        c.about("tries across chunks");
        GreatChunks x = Checks.with("h2,2,4,5,2;f1;f1;");
        x.spoil(1, 1);
        c.due("append", Checks.append(x, 0, "abc"), 4);
        c.dueCells(x, 0, 0, "abc_");
        c.dueCells(x, 1, 0, "..._");
        c.dueCells(x, 1, 1, "abc.");
        x.spoil(1, 3);
        c.due("three in all", Checks.append(x, 1, "abc"), Checks.FAILED);
        c.due("file(1, 2)", x.file(1, 2), 3);
        c.dueCells(x, 0, 2, "abc_");
        c.dueCells(x, 0, 3, "abc_");
        c.dueCells(x, 0, 4, "abc.");
        c.dueCells(x, 1, 4, "....");
        x = Checks.with("h2,2,4,5,2;f1;");
        Checks.append(x, 0, "abc");
        x.spoil(1, 2);
        c.due("a new chunk ahead of each try", Checks.append(x, 0, "def"), 12);
        c.dueCells(x, 0, 0, "abc_");
        c.dueCells(x, 0, 2, "def_");
        c.dueCells(x, 1, 2, "..._");
        c.dueCells(x, 1, 3, "def.");
    }

    private static void downOther() {
        c.about("another that is down");
        GreatChunks x = Checks.with("h3,3,9,5,2;f1;");
        Checks.append(x, 0, "a");
        x.spoil(1, 2);
        x.down(1);
        c.due("append", Checks.append(x, 0, "b"), 2);
        c.due("it was not to write", x.server(1, 5), 2);
        c.due("version", x.chunk(0, 0), 3);
        c.due("stale", x.chunk(0, 5), 2);
        c.dueCells(x, 0, 0, "abb......");
        c.dueCells(x, 2, 0, "abb......");
        c.dueCells(x, 1, 0, "a........");
        c.due("its version", x.part(1, 0, 0), 2);
        x.up(1);
        c.due("append passes by the stale one", Checks.append(x, 0, "c"), 3);
        c.due("not spoilt less", x.server(1, 5), 2);
    }

    private static void thirdTryEndsLease() {
        c.about("a lease that ends with the third try");
        GreatChunks x = Checks.with("h3,3,9,5,2;f1;");
        Checks.append(x, 0, "a");
        c.due("holder", x.chunk(0, 2), 0);
        x.spoil(0, 2);
        x.down(2);
        c.due("append", Checks.append(x, 0, "b"), Checks.FAILED);
        c.dueCells(x, 0, 0, "ab.......");
        c.dueCells(x, 1, 0, "ab.......");
        c.due("no lease", x.chunk(0, 2), Checks.NONE);
        c.due("version", x.chunk(0, 0), 2);
        c.due("good all", x.chunk(0, 4), 7);
    }

    private static void leases() {
        c.about("leases");
        GreatChunks x = Checks.with("h3,2,9,5,2;s2;s2;s2;f1;f5;");
        Checks.append(x, 0, "a");
        c.due("till", x.chunk(0, 3), 5);
        x.tick(4);
        c.due("it holds", x.chunk(0, 2), 0);
        Checks.append(x, 0, "a");
        c.due("version", x.chunk(0, 0), 2);
        c.due("till", x.chunk(0, 3), 5);
        x.tick(1);
        c.due("it holds no more", x.chunk(0, 2), Checks.NONE);
        c.due("till", x.chunk(0, 3), Checks.NONE);
        Checks.append(x, 0, "a");
        c.due("version", x.chunk(0, 0), 3);
        c.due("till", x.chunk(0, 3), 10);
        x.down(0);
        c.due("its holder is down", x.chunk(0, 2), Checks.NONE);
        c.due("append", Checks.append(x, 0, "a"), 3);
        c.due("holder", x.chunk(0, 2), 1);
        c.due("version", x.chunk(0, 0), 4);
        c.due("stale", x.chunk(0, 5), 1);
        x.up(0);
        // Server 0 has one stale copy, 1 one copy, 2 none.
        c.due("append to the single", Checks.append(x, 1, "a"), 0);
        c.due("good", x.chunk(1, 4), 4);
        x = Checks.with("h3,2,9,5,2;s1;s2;s3;f1;f1;f1;");
        Checks.append(x, 0, "a");
        c.due("good", x.chunk(0, 4), 3);
        c.due("the least load of 1/1, 1/2", x.chunk(0, 2), 1);
        Checks.append(x, 1, "a");
        c.due("of 1/1, 1/2, 0/3", x.chunk(1, 4), 6);
        c.due("of 2/2, 1/3", x.chunk(1, 2), 2);
        c.due("target(1) of 1/1, 2/2, 1/3", x.target(1), 5);
    }

    private static void owned() {
        c.about("owned");
        GreatChunks x = Checks.with("h3,3,4,9,2;f1;");
        Checks.append(x, 0, "abc");
        x.both(0, 1);
        x.down(2);
        c.due("append that does not fit", Checks.append(x, 1, "de"), 4);
        c.due("the old one's shares", x.chunk(0, 1), 1);
        c.due("the old one's version", x.chunk(0, 0), 2);
        c.due("good of the old", x.chunk(0, 4), 7);
        c.due("file(0, 10)", x.file(0, 10), 0);
        c.due("file(1, 10)", x.file(1, 10), 1);
        c.due("file(1, 11)", x.file(1, 11), 2);
        c.due("good of the own", x.chunk(1, 4), 3);
        c.dueCells(x, 0, 0, "abc.");
        c.dueCells(x, 0, 1, "abc_");
        c.dueCells(x, 2, 1, "-");
        c.due("version of the own", x.chunk(1, 0), 2);
        c.due("read in the first", x.read(0, 3, 0), Checks.NONE);
    }

    private static void wide() {
        c.about("copies wanted");
        GreatChunks x = Checks.with("h5,3,4,9,2;f1;f2;f3;f4;f5;");
        int[] good = {7, 25, 30, 7, 8};
        for (int f = 0; f < 5; f++) {
            Checks.append(x, f, "a");
            c.due("chunk " + f, x.chunk(f, 4), good[f]);
        }
        x = Checks.with("h2,2,4,9,2;f3;");
        Checks.append(x, 0, "a");
        c.due("fewer servers than wanted", x.chunk(0, 4), 3);
    }
}
