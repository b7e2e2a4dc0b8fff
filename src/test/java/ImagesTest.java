/** Promises 32 to 34: image, restore, count. */
public final class ImagesTest {
    private static final Checks c = new Checks("ImagesTest");

    public static void main(String[] args) {
        refusals();
        allComesBack();
        anotherHouse();
        count();
        c.end();
    }

    private static void refusals() {
        c.about("refusals");
        GreatChunks x = new GreatChunks();
        c.due("image(-1)", x.image(-1), Checks.BAD);
        c.due("image(2)", x.image(2), Checks.BAD);
        c.due("image(0) without house", x.image(0), Checks.STATE);
        c.due("restore(-1)", x.restore(-1), Checks.BAD);
        c.due("restore(2)", x.restore(2), Checks.BAD);
        c.due("restore(0), none kept", x.restore(0), Checks.STATE);
        x = Checks.with("h2,2,4,5,2;");
        c.due("image(2)", x.image(2), Checks.BAD);
        c.due("image(1)", x.image(1), 1);
        c.due("restore(0), none kept", x.restore(0), Checks.STATE);
        c.due("restore(1)", x.restore(1), 1);
    }

    private static void allComesBack() {
        c.about("all comes back");
        GreatChunks x = Checks.with("h3,2,4,5,2;f1;");
        Checks.append(x, 0, "abc");
        x.spoil(0, 2);
        c.due("image(0)", x.image(0), 1);
        c.due("acts stay", x.count(5), 2);
        x.tick(1);
        x.down(2);
        Checks.append(x, 0, "de");
        x.image(1);
        x.feed('q');
        c.due("restore(0)", x.restore(0), 1);
        c.due("no act", x.count(5), 0);
        c.due("undo()", x.undo(), Checks.STATE);
        c.due("sums(0)", x.sums(0), 0);
        c.due("sums(1)", x.sums(1), 1);
        c.due("server(0, 5)", x.server(0, 5), 2);
        c.due("server(2, 0)", x.server(2, 0), 1);
        c.due("chunk(0, 2)", x.chunk(0, 2), 0);
        c.dueCells(x, 0, 0, "abc.");
        c.due("the tape is no part of it", x.count(6), 1);
        x.put(0, 0, 'z');
        c.due("restore(0) again", x.restore(0), 1);
        c.dueCells(x, 0, 0, "abc.");
        c.due("restore(1)", x.restore(1), 1);
        c.due("sums(0)", x.sums(0), 1);
        c.due("server(2, 0)", x.server(2, 0), 0);
        c.due("file(0, 2)", x.file(0, 2), 2);
        x.image(0);
        x.tick(3);
        x.restore(0);
        c.due("an image in place of another", x.sums(0), 1);
    }

    private static void anotherHouse() {
        c.about("another house");
        GreatChunks x = Checks.with("h3,2,4,5,2;s4;f1;");
        Checks.append(x, 0, "abc");
        x.image(0);
        Checks.house(x, "h5,1,9,1,0;");
        Checks.house(x, "h9");
        c.due("restore(0)", x.restore(0), 1);
        c.due("count(0)", x.count(0), 3);
        c.due("server(0, 1)", x.server(0, 1), 4);
        c.due("part(0, 0, 14)", x.part(0, 0, 14), Checks.BAD);
        c.due("fault() is no part of it", x.fault(), 2);
        c.due("append", Checks.append(x, 0, "d"), 3);
        c.due("remove: its own grace", x.remove(0), 2);
    }

    private static void count() {
        c.about("promise 34");
        GreatChunks x = Checks.with("h4,2,4,5,2;f1;f2;f3;");
        c.due("count(-1)", x.count(-1), Checks.BAD);
        c.due("count(7)", x.count(7), Checks.BAD);
        x.down(3);
        x.remove(1);
        Checks.append(x, 0, "abcd");
        Checks.append(x, 0, "abcd");
        x.feed('a');
        x.feed('b');
        x.feed('c');
        int[] want = {4, 3, 2, 1, 2, 4, 3};
        for (int what = 0; what < 7; what++) {
            c.due("count(" + what + ")", x.count(what), want[what]);
        }
    }
}
