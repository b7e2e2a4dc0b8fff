import java.util.function.Consumer;

/** The edges of the term ACTS and of promises 5 and 32 to 34: undo, image, restore, count. */
public final class ActEdgesTest {
    private static final Checks c = new Checks("ActEdgesTest");

    public static void main(String[] args) {
        sixOfMany();
        undoneAndDone();
        nothingBecomesAnother();
        whatIsLostIsAnAct();
        eachIsUndone();
        notActs();
        undoTillNone();
        newHouseForgets();
        imagesOfTwo();
        imageStays();
        restoreForgets();
        restoreAtThirty();
        counts();
        c.end();
    }

    private static void sixOfMany() {
        c.about("ACTS: 6 at most are kept, of more the oldest is forgotten; the latest first");
        for (int many = 0; many <= 20; many++) {
            GreatChunks x = Checks.with("h2,1,4,5,2;");
            for (int i = 1; i <= many; i++) {
                x.tick(i);
            }
            int kept = Math.min(many, 6);
            c.due("count(5) of " + many, x.count(5), kept);
            for (int i = 1; i <= kept; i++) {
                c.due("undo() of " + many, x.undo(), kept - i);
                c.due("count(5)", x.count(5), kept - i);
                c.due("sums(0)", x.sums(0), (many - i) * (many - i + 1) / 2);
            }
            c.due("none is left of " + many, x.undo(), Checks.STATE);
            c.due("and nothing changed", x.sums(0), (many - kept) * (many - kept + 1) / 2);
        }
    }

    private static void undoneAndDone() {
        c.about("ACTS behind an undo: what was undone does not come again");
        GreatChunks x = Checks.with("h2,1,4,5,2;");
        for (int turn = 0; turn < 10; turn++) {
            x.tick(1);
            x.tick(10);
            c.due("undo()", x.undo(), Math.min(turn + 1, 5));
            c.due("sums(0)", x.sums(0), turn + 1);
        }
        for (int i = 4; i >= 0; i--) {
            c.due("undo()", x.undo(), i);
            c.due("sums(0)", x.sums(0), i + 5);
        }
        c.due("undo()", x.undo(), Checks.STATE);
    }

    private static void nothingBecomesAnother() {
        c.about("ACTS: also such by which nothing becomes another");
        GreatChunks x = Checks.with("h2,1,4,5,2;f1;");
        c.due("spoil(0, 0)", x.spoil(0, 0), 0);
        c.due("count(5)", x.count(5), 1);
        c.due("beat(0)", x.beat(0), 0);
        c.due("count(5)", x.count(5), 2);
        x.down(0);
        x.down(1);
        c.due("append", Checks.append(x, 0, "a"), Checks.LOST);
        c.due("count(5)", x.count(5), 5);
        c.due("append again", Checks.append(x, 0, "a"), Checks.LOST);
        c.due("count(5)", x.count(5), 6);
        c.due("mend, NONE", x.mend(), Checks.NONE);
        c.due("count(5)", x.count(5), 6);
        for (int i = 5; i >= 2; i--) {
            c.due("undo()", x.undo(), i);
        }
        c.due("both are UP", x.count(1), 2);
    }

    private static void whatIsLostIsAnAct() {
        c.about("LOST, FAILED, FULL of append(), put() behind STATE: the ACT is kept");
        GreatChunks x = Checks.with("h2,2,4,5,2;f1;");
        Checks.append(x, 0, "a");
        x.spoil(0, 3);
        c.due("FAILED", Checks.append(x, 0, "b"), Checks.FAILED);
        c.due("count(5)", x.count(5), 3);
        c.due("server(0, 5)", x.server(0, 5), 0);
        c.due("undo()", x.undo(), 2);
        c.due("server(0, 5)", x.server(0, 5), 3);
        x.spoil(1, 1);
        c.due("LOST of put", x.put(0, 0, 'z'), Checks.LOST);
        c.due("count(5)", x.count(5), 4);
        c.due("chunk(0, 5)", x.chunk(0, 5), 3);
        c.due("undo()", x.undo(), 3);
        c.due("chunk(0, 5)", x.chunk(0, 5), 0);
        c.due("server(0, 5)", x.server(0, 5), 3);
        c.due("server(1, 5)", x.server(1, 5), 1);
        c.due("part(0, 0, 0)", x.part(0, 0, 0), 2);
    }

    /** A house in which each call of 'what is done' can do something. */
    private static GreatChunks ready() {
        GreatChunks x = Checks.with("h3,2,4,5,3;s2;s3;f1;f3;f1;f4;f1;");
        Checks.append(x, 0, "abc");
        Checks.append(x, 1, "defg");
        Checks.append(x, 3, "hi");
        x.both(0, 2 + 3);
        x.remove(2);
        x.down(2);
        x.put(1, 0, 'q');
        x.remove(3);
        x.tick(1);
        x.image(0);
        x.restore(0);
        return x;
    }

    private static void eachIsUndone() {
        c.about("each call of 'what is done' can be undone");
        undone("create", x -> x.create(3, 5));
        undone("append", x -> Checks.append(x, 1, "xyz"));
        undone("append, OWNED", x -> Checks.append(x, 0, "xyz"));
        undone("append, NEW", x -> Checks.append(x, 4, "xyz"));
        undone("put", x -> x.put(1, 1, 'z'));
        undone("put, OWNED", x -> x.put(0, 1, 'z'));
        undone("both", x -> x.both(1, 3));
        undone("remove", x -> x.remove(1));
        undone("bring", x -> x.bring(2));
        undone("tick", x -> x.tick(50));
        undone("down", x -> x.down(0));
        undone("up", x -> x.up(2));
        undone("spoil", x -> x.spoil(0, 9));
        undone("beat", x -> x.beat(0));
        undone("mend", x -> {
            x.up(2);
            x.mend();
            x.undo();
        });
    }

    private static void undone(String call, Consumer<GreatChunks> made) {
        GreatChunks x = ready();
        String before = Checks.look(x);
        made.accept(x);
        c.due(call + ": count(5)", x.count(5), 1);
        c.due(call + ": something became another", Checks.look(x).equals(before) ? 1 : 0, 0);
        c.due(call + ": undo()", x.undo(), 0);
        c.due(call + ": all is as it was", Checks.look(x).equals(before) ? 1 : 0, 1);
        c.due(call + ": undo()", x.undo(), Checks.STATE);
    }

    private static void notActs() {
        c.about("what is told, what there is, what is foretold are no ACTS");
        GreatChunks x = ready();
        Checks.look(x);
        Checks.find(x, 0, "a");
        Checks.append(x, 0, "A");
        Checks.append(x, 9, "a");
        Checks.append(x, 2, "a");
        Checks.house(x, "h");
        x.image(1);
        x.fault();
        x.undo();
        x.as(0, 0);
        x.read(0, 0, 0);
        c.due("count(5)", x.count(5), 0);
        x.tick(1);
        c.due("count(5)", x.count(5), 1);
        x.image(1);
        Checks.house(x, "h");
        c.due("a FAULT and an image leave it", x.count(5), 1);
        c.due("undo()", x.undo(), 0);
    }

    private static void undoTillNone() {
        c.about("undo: STATE: none");
        GreatChunks x = ready();
        for (int i = 0; i < 10; i++) {
            c.due("undo()", x.undo(), Checks.STATE);
        }
        x.tick(1);
        c.due("undo()", x.undo(), 0);
        c.due("undo()", x.undo(), Checks.STATE);
        x.down(0);
        c.due("undo()", x.undo(), 0);
        c.due("server(0, 0)", x.server(0, 0), 1);
    }

    private static void newHouseForgets() {
        c.about("a HOUSE that is read: no ACT can be undone; IMAGES stay");
        GreatChunks x = ready();
        for (int i = 0; i < 8; i++) {
            x.tick(1);
        }
        x.image(0);
        c.due("house()", Checks.house(x, "h2,1,4,1,0;f1;"), 1);
        c.due("count(5)", x.count(5), 0);
        c.due("undo()", x.undo(), Checks.STATE);
        c.due("sums(0)", x.sums(0), 0);
        x.tick(5);
        c.due("undo()", x.undo(), 0);
        c.due("sums(0)", x.sums(0), 0);
        c.due("undo()", x.undo(), Checks.STATE);
        c.due("restore(0)", x.restore(0), 1);
        c.due("sums(0)", x.sums(0), 9);
        c.due("count(0)", x.count(0), 3);
    }

    private static void imagesOfTwo() {
        c.about("image: an IMAGE (0, 1)");
        GreatChunks x = ready();
        x.image(0);
        x.tick(1);
        x.image(1);
        x.tick(1);
        for (int turn = 0; turn < 3; turn++) {
            c.due("restore(1)", x.restore(1), 1);
            c.due("sums(0)", x.sums(0), 2);
            c.due("restore(0)", x.restore(0), 1);
            c.due("sums(0)", x.sums(0), 1);
        }
        x.tick(7);
        c.due("an image in place of one", x.image(0), 1);
        x.tick(1);
        x.restore(1);
        c.due("the other stays", x.sums(0), 2);
        x.restore(0);
        c.due("sums(0)", x.sums(0), 8);
    }

    private static void imageStays() {
        c.about("restore: all is as an IMAGE kept it, however often, whatever was done");
        GreatChunks x = ready();
        String before = Checks.look(x);
        x.image(1);
        for (int turn = 0; turn < 3; turn++) {
            x.up(2);
            Checks.append(x, 0, "zz");
            x.put(1, 0, 'x');
            x.mend();
            x.beat(0);
            x.tick(50);
            x.spoil(1, 4);
            x.create(3, 2);
            c.due("restore(1)", x.restore(1), 1);
            c.due("all is as it was", Checks.look(x).equals(before) ? 1 : 0, 1);
        }
        Checks.house(x, "h5,3,9,20,20;s9;f1;f1;f1;f1;f1;f1;");
        for (int f = 0; f < 6; f++) {
            Checks.append(x, f, "zzzzzzzzz");
        }
        x.restore(1);
        c.due("behind another HOUSE", Checks.look(x).equals(before) ? 1 : 0, 1);
        c.due("cells beyond SIZE", x.part(0, 0, 14), Checks.BAD);
        c.due("servers beyond", x.server(3, 0), Checks.BAD);
    }

    private static void restoreForgets() {
        c.about("restore: no ACT can be undone then");
        GreatChunks x = ready();
        x.image(0);
        for (int i = 0; i < 7; i++) {
            x.tick(1);
        }
        c.due("count(5)", x.count(5), 6);
        x.restore(0);
        c.due("count(5)", x.count(5), 0);
        c.due("undo()", x.undo(), Checks.STATE);
        x.tick(2);
        c.due("undo()", x.undo(), 0);
        c.due("sums(0)", x.sums(0), 1);
        c.due("a refused one forgets nothing", x.restore(1), Checks.STATE);
        x.tick(2);
        x.restore(2);
        c.due("count(5)", x.count(5), 1);
    }

    private static void restoreAtThirty() {
        c.about("restore, undo: CHUNKS that were made count back");
        GreatChunks x = Checks.with("h2,1,4,5,0;f1;");
        x.image(0);
        for (int i = 0; i < 30; i++) {
            Checks.append(x, 0, "a");
            x.remove(0);
            x.create(0, 1);
        }
        c.due("FULL", Checks.append(x, 0, "a"), Checks.FULL);
        c.due("count(4)", x.count(4), 30);
        c.due("undo()", x.undo(), 5);
        x.undo();
        x.undo();
        c.due("undo() of an append", x.undo(), 2);
        c.due("count(4)", x.count(4), 29);
        c.due("append", Checks.append(x, 0, "b"), 0);
        c.due("its number", x.file(0, 10), 29);
        x.restore(0);
        c.due("count(4)", x.count(4), 0);
        c.due("append", Checks.append(x, 0, "b"), 0);
        c.due("its number", x.file(0, 10), 0);
        c.due("server(0, 2)", x.server(0, 2), 1);
    }

    private static void counts() {
        c.about("count: how many");
        GreatChunks x = Checks.with("h5,1,4,5,9;f1;f1;f1;f1;f1;f1;");
        for (int i = 0; i < 5; i++) {
            int[] want = {5, 5 - i, 6 - i, i, i, Math.min(6, 3 * i), 2 * i};
            for (int what = 0; what <= 6; what++) {
                c.due("count(" + what + ") of " + i, x.count(what), want[what]);
            }
            String tape = "ab".repeat(i + 1);
            x.find(0);
            Checks.append(x, i, "a");
            x.remove(i);
            x.down(i);
            Checks.feed(x, tape);
        }
        c.due("count(1)", x.count(1), 0);
    }
}
