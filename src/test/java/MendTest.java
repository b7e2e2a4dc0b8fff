/** Promises 17 and 29: mend, mends. */
public final class MendTest {
    private static final Checks c = new Checks("MendTest");

    public static void main(String[] args) {
        refusals();
        whichAndWhere();
        likeTheLeast();
        mostWanted();
        none();
        c.end();
    }

    private static void refusals() {
        c.about("refusals");
        GreatChunks x = new GreatChunks();
        c.due("mend without house", x.mend(), Checks.STATE);
        c.due("mends without house", x.mends(), Checks.STATE);
        x = Checks.with("h3,2,4,5,2;f1;");
        c.due("mend of nothing", x.mend(), Checks.NONE);
        c.due("mends of nothing", x.mends(), 0);
        Checks.append(x, 0, "a");
        c.due("mend of enough", x.mend(), Checks.NONE);
        c.due("mends of enough", x.mends(), 0);
    }

    private static void whichAndWhere() {
        c.about("which chunk, which server");
        GreatChunks x = Checks.with("h5,2,4,5,2;s9;s9;s1;s2;s3;f1;f1;");
        Checks.append(x, 0, "ab");
        Checks.append(x, 1, "cd");
        c.due("chunk(0, 4)", x.chunk(0, 4), 3);
        c.due("chunk(1, 4)", x.chunk(1, 4), 12);
        x.down(0);
        x.down(2);
        c.due("mends()", x.mends(), 2);
        c.due("mends() changed nothing", x.sums(3), 4);
        // Not able for chunk 0 and up: 3 with 1/2, 4 with 0/3.
        c.due("mend()", x.mend(), 0);
        c.due("chunk(0, 4)", x.chunk(0, 4), 19);
        // Not able for chunk 1 and up: 1 with 1/9, 4 with 1/3.
        c.due("mend()", x.mend(), 1);
        c.due("chunk(1, 4)", x.chunk(1, 4), 14);
        c.due("mend()", x.mend(), Checks.NONE);
        c.due("mends()", x.mends(), 0);
        x.down(1);
        x.down(3);
        c.due("one up server has all, the other chunk is not readable", x.mends(), 0);
        x.up(2);
        c.due("mends()", x.mends(), 2);
        c.due("mend()", x.mend(), 0);
        c.due("mend()", x.mend(), 1);
        c.dueCells(x, 4, 1, "cd..");
    }

    private static void likeTheLeast() {
        c.about("like the copy at the least able server");
        GreatChunks x = Checks.with("h4,3,6,5,2;f1;");
        Checks.append(x, 0, "ab");
        x.spoil(1, 1);
        Checks.append(x, 0, "cd");
        c.dueCells(x, 1, 0, "ab..cd");
        x.down(2);
        x.down(0);
        c.due("mend()", x.mend(), 0);
        c.dueCells(x, 3, 0, "ab..cd");
        c.due("part(3, 0, 0)", x.part(3, 0, 0), 2);
        c.due("part(3, 0, 1)", x.part(3, 0, 1), 6);
        c.due("good", x.chunk(0, 4), 15);
        x.put(0, 0, 'z');
        x.up(0);
        c.due("stale at 0", x.chunk(0, 5), 5);
        c.due("mend()", x.mend(), 0);
        c.dueCells(x, 0, 0, "zb..cd");
        c.due("part(0, 0, 0)", x.part(0, 0, 0), 3);
        c.due("stale", x.chunk(0, 5), 4);
        c.due("mend()", x.mend(), Checks.NONE);
    }

    private static void mostWanted() {
        c.about("the most copies wanted");
        GreatChunks x = Checks.with("h5,2,4,5,9;f5;f3;f2;");
        Checks.append(x, 0, "a");
        c.due("one is enough of a single", x.mends(), 0);
        Checks.append(x, 1, "a");
        c.due("three of a wide one", x.chunk(1, 4), 14);
        x.down(1);
        c.due("mends()", x.mends(), 1);
        x.remove(1);
        c.due("a hidden file wants them yet", x.mends(), 1);
        c.due("mend()", x.mend(), 1);
        c.due("server 4 was the least full", x.chunk(1, 4), 30);
        x.down(2);
        c.due("mends()", x.mends(), 1);
        c.due("tick(9)", x.tick(9), 1);
        c.due("none of a forgotten chunk", x.mends(), 0);
        c.due("mend()", x.mend(), Checks.NONE);
    }

    private static void none() {
        c.about("no server to take or to give");
        GreatChunks x = Checks.with("h2,3,4,5,9;f1;");
        Checks.append(x, 0, "a");
        c.due("none to take", x.mends(), 0);
        x.down(0);
        c.due("none up to take", x.mend(), Checks.NONE);
        x.down(1);
        c.due("none to give", x.mend(), Checks.NONE);
        x.up(0);
        Checks.append(x, 0, "b");
        x.up(1);
        c.due("stale at 1", x.chunk(0, 5), 2);
        c.due("mend()", x.mend(), 0);
        c.due("good", x.chunk(0, 4), 3);
        c.due("copies", x.sums(3), 2);
    }
}
