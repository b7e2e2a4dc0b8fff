/** Promise 8: put. */
public final class PutTest {
    private static final Checks c = new Checks("PutTest");

    public static void main(String[] args) {
        refusals();
        letters();
        spoilt();
        lost();
        owned();
        c.end();
    }

    private static void refusals() {
        c.about("refusals");
        GreatChunks x = new GreatChunks();
        c.due("no house", x.put(-1, -1, -1), Checks.STATE);
        x = Checks.with("h2,2,4,5,2;f1;f2;");
        c.due("file -1", x.put(-1, 0, 'a'), Checks.BAD);
        c.due("file 6", x.put(6, 0, 'a'), Checks.BAD);
        c.due("none: STATE ahead of BAD", x.put(2, -1, 0), Checks.STATE);
        c.due("log: STATE ahead of BAD", x.put(1, -1, 0), Checks.STATE);
        c.due("no chunk", x.put(0, 0, 'a'), Checks.BAD);
        Checks.append(x, 0, "a");
        Checks.append(x, 1, "a");
        c.due("i -1", x.put(0, -1, 'a'), Checks.BAD);
        c.due("i 4", x.put(0, 4, 'a'), Checks.BAD);
        c.due("letter 96", x.put(0, 0, 96), Checks.BAD);
        c.due("letter 123", x.put(0, 0, 123), Checks.BAD);
        c.due("a log", x.put(1, 0, 'a'), Checks.STATE);
        c.due("no act", x.count(5), 2);
        c.due("letter 97", x.put(0, 0, 97), 2);
        c.due("letter 122", x.put(0, 3, 122), 2);
        x.remove(0);
        c.due("hidden", x.put(0, 0, 'a'), Checks.STATE);
    }

    private static void letters() {
        c.about("letters");
        GreatChunks x = Checks.with("h2,2,4,5,2;f1;");
        Checks.append(x, 0, "abc");
        Checks.append(x, 0, "de");
        c.due("versions", x.chunk(0, 0), 2);
        x.tick(1);
        c.due("put in the second", x.put(0, 5, 'q'), 2);
        c.due("leased in any case", x.chunk(1, 0), 3);
        c.due("till", x.chunk(1, 3), 6);
        c.due("filled as it was", x.part(0, 1, 1), 2);
        c.dueCells(x, 1, 1, "dq..");
        c.due("put behind", x.put(0, 6, 'r'), 2);
        c.due("filled", x.part(0, 1, 1), 3);
        c.due("put on a pad", x.put(0, 3, 's'), 2);
        c.dueCells(x, 0, 0, "abcs");
        c.due("the first is leased", x.chunk(0, 0), 3);
        c.due("append goes on behind", Checks.append(x, 0, "t"), 7);
        x = Checks.with("h2,2,4,5,2;f1;");
        Checks.append(x, 0, "a");
        c.due("put leaves a gap", x.put(0, 2, 'c'), 2);
        c.dueCells(x, 0, 0, "a.c.");
        c.due("left", x.left(0), 1);
    }

    private static void spoilt() {
        c.about("spoilt");
        GreatChunks x = Checks.with("h3,3,4,5,2;f1;");
        Checks.append(x, 0, "abcd");
        x.spoil(0, 1);
        c.due("put", x.put(0, 0, 'z'), 2);
        c.due("spoilt less", x.server(0, 5), 0);
        c.due("version", x.part(0, 0, 0), 0);
        c.dueCells(x, 0, 0, "abcd");
        c.dueCells(x, 1, 0, "zbcd");
        c.due("stale", x.chunk(0, 5), 1);
        c.due("the holder is stale: no lease holds", x.chunk(0, 2), Checks.NONE);
        c.due("read", x.read(0, 0, 0), Checks.STALE);
        x.down(1);
        c.due("put at one", x.put(0, 1, 'y'), 1);
        c.due("stale", x.chunk(0, 5), 3);
        c.due("the stale one's version stays 0", x.part(0, 0, 0), 0);
        x.up(1);
        c.due("stale yet", x.read(0, 1, 1), Checks.STALE);
        c.due("mend in place of a stale one", x.mend(), 0);
        c.dueCells(x, 0, 0, "zycd");
    }

    private static void lost() {
        c.about("lost");
        GreatChunks x = Checks.with("h2,2,4,5,2;f1;");
        Checks.append(x, 0, "abcd");
        x.spoil(0, 1);
        x.spoil(1, 1);
        c.due("all failed", x.put(0, 0, 'z'), Checks.LOST);
        c.due("the act is kept", x.count(5), 4);
        c.due("all stale", x.chunk(0, 5), 3);
        c.due("version", x.chunk(0, 0), 3);
        c.due("no able server", x.put(0, 0, 'z'), Checks.LOST);
        c.due("version as it was", x.chunk(0, 0), 3);
        c.due("the act is kept", x.count(5), 5);
        c.due("undo()", x.undo(), 4);
        c.due("undo()", x.undo(), 3);
        c.due("good again", x.chunk(0, 6), 3);
        x.down(0);
        x.down(1);
        c.due("all are down", x.put(0, 0, 'z'), Checks.LOST);
        c.due("good yet", x.chunk(0, 4), 3);
    }

    private static void owned() {
        c.about("owned");
        GreatChunks x = Checks.with("h3,2,4,5,2;f1;");
        Checks.append(x, 0, "abcd");
        Checks.append(x, 0, "efgh");
        x.both(0, 1);
        c.due("put", x.put(1, 1, 'z'), 2);
        c.due("file(1, 10)", x.file(1, 10), 2);
        c.due("file(1, 11)", x.file(1, 11), 1);
        c.due("shares", x.chunk(0, 1), 1);
        c.due("shares of the other", x.chunk(1, 1), 2);
        c.due("version", x.chunk(2, 0), 2);
        c.due("read in one", x.read(0, 1, 0), 'b');
        c.due("read in the other", x.read(1, 1, 0), 'z');
        c.due("put again, own now", x.put(1, 0, 'y'), 2);
        c.due("sums(1)", x.sums(1), 3);
        c.due("put in the first, own now", x.put(0, 0, 'x'), 2);
        c.due("sums(1)", x.sums(1), 3);
        x.down(0);
        x.down(1);
        x.down(2);
        c.due("shared and no able server", x.put(0, 4, 'x'), Checks.LOST);
        c.due("shares as they were", x.chunk(1, 1), 2);
        ownedBehindTheFirst();
    }

    private static void ownedBehindTheFirst() {
        GreatChunks x = Checks.with("h2,1,4,5,2;f1;");
        for (int i = 0; i < 4; i++) {
            Checks.append(x, 0, "abcd");
        }
        x.both(0, 1);
        c.due("put in the third", x.put(1, 9, 'z'), 1);
        int[] row = {0, 1, 4, 3};
        for (int k = 0; k < 4; k++) {
            c.due("file(0, 10 and " + k + ")", x.file(0, 10 + k), k);
            c.due("file(1, 10 and " + k + ")", x.file(1, 10 + k), row[k]);
        }
        c.due("found in one", Checks.find(x, 0, "b"), 4);
        c.due("found in the other", Checks.find(x, 1, "b"), 3);
    }
}
