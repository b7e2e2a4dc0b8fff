/** Promise 5: undo, and which calls are acts. */
public final class ActsTest {
    private static final Checks c = new Checks("ActsTest");

    public static void main(String[] args) {
        sixAtMost();
        eachAct();
        noActs();
        allComesBack();
        c.end();
    }

    private static void sixAtMost() {
        c.about("six at most");
        GreatChunks x = Checks.with("h2,1,4,5,2;");
        c.due("undo() of none", x.undo(), Checks.STATE);
        for (int i = 1; i <= 8; i++) {
            x.tick(i);
            c.due("count(5)", x.count(5), Math.min(i, 6));
        }
        for (int i = 5; i >= 0; i--) {
            c.due("undo()", x.undo(), i);
            c.due("sums(0)", x.sums(0), (i + 2) * (i + 3) / 2);
        }
        c.due("undo()", x.undo(), Checks.STATE);
        c.due("sums(0)", x.sums(0), 3);
        x.tick(1);
        x.tick(1);
        c.due("undo() behind more", x.undo(), 1);
        c.due("sums(0)", x.sums(0), 4);
    }

    private static void eachAct() {
        c.about("each call of what is done");
        GreatChunks x = Checks.with("h3,2,4,5,2;f1;");
        int acts = 0;
        c.due("create", x.create(1, 3), 2);
        c.due("count(5)", x.count(5), ++acts);
        c.due("append", Checks.append(x, 0, "ab"), 0);
        c.due("count(5)", x.count(5), ++acts);
        c.due("put", x.put(0, 0, 'z'), 2);
        c.due("count(5)", x.count(5), ++acts);
        c.due("both", x.both(0, 2), 1);
        c.due("count(5)", x.count(5), ++acts);
        c.due("remove", x.remove(2), 2);
        c.due("count(5)", x.count(5), ++acts);
        c.due("bring", x.bring(2), 0);
        c.due("count(5)", x.count(5), ++acts);
        c.due("undo()", x.undo(), 5);
        c.due("file(2, 0)", x.file(2, 0), 2);
        c.due("undo()", x.undo(), 4);
        c.due("file(2, 0)", x.file(2, 0), 1);
        c.due("undo()", x.undo(), 3);
        c.due("file(2, 0)", x.file(2, 0), 0);
        c.due("chunk(0, 1)", x.chunk(0, 1), 1);
        c.due("the lease is back", x.chunk(0, 2), 0);
        c.due("undo()", x.undo(), 2);
        c.due("read(0, 0, 0)", x.read(0, 0, 0), 'a');
        c.due("undo()", x.undo(), 1);
        c.due("sums(1)", x.sums(1), 0);
        c.due("undo()", x.undo(), 0);
        c.due("file(1, 0)", x.file(1, 0), 0);
        serversActs();
    }

    private static void serversActs() {
        GreatChunks x = Checks.with("h3,2,4,5,2;f1;");
        Checks.append(x, 0, "ab");
        x.image(0);
        x.restore(0);
        int acts = 0;
        c.due("down", x.down(0), 2);
        c.due("count(5)", x.count(5), ++acts);
        c.due("mend", x.mend(), 0);
        c.due("count(5)", x.count(5), ++acts);
        c.due("mend of none", x.mend(), Checks.NONE);
        c.due("count(5)", x.count(5), acts);
        c.due("up", x.up(0), 3);
        c.due("count(5)", x.count(5), ++acts);
        c.due("spoil by what it is", x.spoil(0, 0), 0);
        c.due("count(5)", x.count(5), ++acts);
        c.due("beat of nothing", x.beat(0), 0);
        c.due("count(5)", x.count(5), ++acts);
        c.due("tick", x.tick(1), 0);
        c.due("count(5)", x.count(5), ++acts);
        for (int i = 0; i < 4; i++) {
            x.undo();
        }
        c.due("server(0, 0)", x.server(0, 0), 0);
        c.due("sums(0)", x.sums(0), 0);
        c.due("chunk(0, 4)", x.chunk(0, 4), 7);
        x.undo();
        c.due("chunk(0, 4)", x.chunk(0, 4), 3);
        x.undo();
        c.due("server(0, 0)", x.server(0, 0), 1);
    }

    private static void noActs() {
        c.about("calls that are no acts");
        GreatChunks x = Checks.with("h3,2,4,5,2;f1;f2;");
        Checks.append(x, 0, "ab");
        x.create(0, 1);
        x.create(9, 1);
        Checks.append(x, 5, "ab");
        Checks.append(x, 0, "");
        x.put(1, 0, 'a');
        x.put(0, 9, 'a');
        x.both(0, 1);
        x.both(0, 9);
        x.remove(5);
        x.remove(6);
        x.bring(0);
        x.tick(0);
        x.tick(51);
        x.down(3);
        x.up(0);
        x.spoil(0, 10);
        x.spoil(3, 0);
        x.beat(3);
        x.mend();
        x.mends();
        x.drawn(12, 1, 0);
        x.odds(0, 5, 0);
        Checks.find(x, 0, "a");
        x.image(0);
        x.feed('a');
        x.house();
        c.due("count(5)", x.count(5), 1);
        x.down(0);
        x.beat(0);
        x.down(0);
        c.due("count(5)", x.count(5), 2);
    }

    private static void allComesBack() {
        c.about("all comes back");
        GreatChunks x = Checks.with("h3,2,4,5,0;s2;f1;f2;");
        Checks.append(x, 0, "ab");
        x.spoil(1, 3);
        x.tick(2);
        x.feed('q');
        x.remove(0);
        c.due("gone", x.chunk(0, 1), 0);
        x.beat(0);
        c.due("thrown away", x.part(0, 0, 0), Checks.NONE);
        c.due("undo()", x.undo(), 4);
        c.dueCells(x, 0, 0, "ab..");
        c.due("undo()", x.undo(), 3);
        c.due("file(0, 0)", x.file(0, 0), 1);
        c.due("file(0, 10)", x.file(0, 10), 0);
        c.due("chunk(0, 1)", x.chunk(0, 1), 1);
        c.due("undo()", x.undo(), 2);
        c.due("sums(0)", x.sums(0), 0);
        c.due("undo()", x.undo(), 1);
        c.due("server(1, 5)", x.server(1, 5), 0);
        c.due("the tape is no part of it", x.count(6), 1);
        c.due("undo()", x.undo(), 0);
        c.due("file(0, 2)", x.file(0, 2), 0);
        c.due("sums(1)", x.sums(1), 0);
        c.due("chunk(0, 0)", x.chunk(0, 0), Checks.BAD);
        c.due("server(0, 2)", x.server(0, 2), 0);
        sinceWhenComesBack();
    }

    private static void sinceWhenComesBack() {
        GreatChunks x = Checks.with("h3,2,4,5,9;f1;");
        x.tick(1);
        x.remove(0);
        x.tick(2);
        x.bring(0);
        x.remove(0);
        c.due("hidden anew", x.file(0, 3), 3);
        x.undo();
        c.due("undo()", x.undo(), 3);
        c.due("hidden since", x.file(0, 3), 1);
        c.due("bring(0)", x.bring(0), 1);
    }
}
