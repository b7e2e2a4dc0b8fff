/** Promises 6, 9 to 12, 20 and 25: create, both, remove, bring, tick, file, as. */
public final class FilesTest {
    private static final Checks c = new Checks("FilesTest");

    public static void main(String[] args) {
        create();
        both();
        removeAndBring();
        tick();
        file();
        as();
        c.end();
    }

    private static void create() {
        c.about("promise 6");
        GreatChunks x = new GreatChunks();
        c.due("create without house", x.create(0, 1), Checks.STATE);
        c.due("create(-1, 9) without house", x.create(-1, 9), Checks.STATE);
        x = Checks.with("h2,1,4,5,3;f1;");
        c.due("create(-1, 1)", x.create(-1, 1), Checks.BAD);
        c.due("create(6, 1)", x.create(6, 1), Checks.BAD);
        c.due("create(1, 0)", x.create(1, 0), Checks.BAD);
        c.due("create(1, 6)", x.create(1, 6), Checks.BAD);
        c.due("create(0, 0): BAD ahead of STATE", x.create(0, 0), Checks.BAD);
        c.due("create(0, 1), it is there", x.create(0, 1), Checks.STATE);
        c.due("count(5)", x.count(5), 0);
        c.due("create(5, 5)", x.create(5, 5), 2);
        c.due("file(5, 0)", x.file(5, 0), 1);
        c.due("file(5, 1)", x.file(5, 1), 5);
        c.due("file(5, 2)", x.file(5, 2), 0);
        c.due("create(1, 3)", x.create(1, 3), 3);
        x.remove(1);
        c.due("create(1, 3), it is hidden", x.create(1, 3), Checks.STATE);
        c.due("create(2, 2)", x.create(2, 2), 3);
        c.due("count(5)", x.count(5), 4);
    }

    private static void both() {
        c.about("promise 9");
        GreatChunks x = new GreatChunks();
        c.due("both without house", x.both(7, 7), Checks.STATE);
        x = Checks.with("h3,2,4,9,3;f3;f1;");
        c.due("both(-1, 2)", x.both(-1, 2), Checks.BAD);
        c.due("both(0, 6)", x.both(0, 6), Checks.BAD);
        c.due("both(3, -1): BAD ahead of STATE", x.both(3, -1), Checks.BAD);
        c.due("both(2, 3), from none", x.both(2, 3), Checks.STATE);
        c.due("both(0, 1), to one there", x.both(0, 1), Checks.STATE);
        c.due("both(0, 0)", x.both(0, 0), Checks.STATE);
        c.due("both(0, 2), no chunks", x.both(0, 2), 0);
        c.due("file(2, 1)", x.file(2, 1), 3);
        Checks.append(x, 0, "abcd");
        Checks.append(x, 0, "efg");
        c.due("a lease holds", x.chunk(0, 2), 0);
        c.due("both(0, 3)", x.both(0, 3), 2);
        c.due("file(3, 1)", x.file(3, 1), 3);
        c.due("file(3, 10)", x.file(3, 10), 0);
        c.due("file(3, 11)", x.file(3, 11), 1);
        c.due("file(3, 12)", x.file(3, 12), Checks.NONE);
        c.due("chunk(0, 1)", x.chunk(0, 1), 2);
        c.due("chunk(1, 1)", x.chunk(1, 1), 2);
        c.due("leases end", x.chunk(0, 2), Checks.NONE);
        c.due("leases end", x.chunk(1, 3), Checks.NONE);
        c.due("no copy more", x.sums(3), 6);
        x.remove(0);
        c.due("both(0, 4), from hidden", x.both(0, 4), Checks.STATE);
        c.due("both(3, 0), to hidden", x.both(3, 0), Checks.STATE);
        c.due("both(3, 4)", x.both(3, 4), 2);
        c.due("a hidden file shares", x.chunk(0, 1), 3);
        c.due("only what was done", x.count(5), 6);
    }

    private static void removeAndBring() {
        c.about("promises 10 and 11");
        GreatChunks x = new GreatChunks();
        c.due("remove without house", x.remove(9), Checks.STATE);
        c.due("bring without house", x.bring(9), Checks.STATE);
        x = Checks.with("h2,1,4,9,3;f1;f2;f3;f4;f5;");
        c.due("remove(-1)", x.remove(-1), Checks.BAD);
        c.due("remove(6)", x.remove(6), Checks.BAD);
        c.due("remove(5), none", x.remove(5), Checks.STATE);
        c.due("bring(6)", x.bring(6), Checks.BAD);
        c.due("bring(5), none", x.bring(5), Checks.STATE);
        c.due("bring(0), there", x.bring(0), Checks.STATE);
        for (int f = 0; f < 5; f++) {
            Checks.append(x, f, "ab");
        }
        x.tick(2);
        c.due("remove(0)", x.remove(0), 5);
        c.due("remove(1)", x.remove(1), 5);
        c.due("remove(2)", x.remove(2), 5);
        c.due("remove(3), brief", x.remove(3), 2);
        c.due("remove(4), single is brief", x.remove(4), 2);
        for (int f = 0; f < 5; f++) {
            c.due("file(" + f + ", 0)", x.file(f, 0), f < 3 ? 2 : 0);
            c.due("file(" + f + ", 3)", x.file(f, 3), f < 3 ? 2 : Checks.NONE);
            c.due("chunk(" + f + ", 1)", x.chunk(f, 1), f < 3 ? 1 : 0);
        }
        c.due("count(3)", x.count(3), 3);
        c.due("remove(0), hidden", x.remove(0), Checks.STATE);
        c.due("bring(3), gone", x.bring(3), Checks.STATE);
        c.due("tick(1)", x.tick(1), 0);
        c.due("bring(1)", x.bring(1), 2);
        c.due("file(1, 0)", x.file(1, 0), 1);
        c.due("file(1, 3)", x.file(1, 3), Checks.NONE);
        c.due("read(1, 0, ..)", Math.max(x.read(1, 0, 0), x.read(1, 0, 1)), 'a');
        c.due("remove(1) again", x.remove(1), 6);
        x = Checks.with("h2,1,4,9,0;f1;");
        c.due("remove with grace 0", x.remove(0), 0);
        c.due("file(0, 0)", x.file(0, 0), 0);
        c.due("bring(0)", x.bring(0), Checks.STATE);
    }

    private static void tick() {
        c.about("promise 12");
        GreatChunks x = new GreatChunks();
        c.due("tick without house", x.tick(0), Checks.STATE);
        x = Checks.with("h2,1,4,20,3;f1;f2;f3;f4;");
        c.due("tick(0)", x.tick(0), Checks.BAD);
        c.due("tick(51)", x.tick(51), Checks.BAD);
        c.due("tick(-1)", x.tick(-1), Checks.BAD);
        c.due("count(5)", x.count(5), 0);
        Checks.append(x, 0, "ab");
        x.both(0, 4);
        x.remove(0);
        c.due("tick(1)", x.tick(1), 0);
        x.remove(1);
        c.due("tick(1) again", x.tick(1), 0);
        c.due("tick: the first is gone", x.tick(1), 1);
        c.due("file(0, 0)", x.file(0, 0), 0);
        c.due("file(0, 1)", x.file(0, 1), Checks.NONE);
        c.due("file(0, 2)", x.file(0, 2), 0);
        c.due("shares are less", x.chunk(0, 1), 1);
        c.due("file(1, 0)", x.file(1, 0), 2);
        x.remove(2);
        x.remove(4);
        c.due("tick(50)", x.tick(50), 3);
        c.due("sums(0)", x.sums(0), 53);
        c.due("sums(2)", x.sums(2), 1);
        c.due("count(2)", x.count(2), 1);
        c.due("count(3)", x.count(3), 0);
    }

    private static void file() {
        c.about("promise 20");
        GreatChunks x = new GreatChunks();
        c.due("file without house", x.file(-1, 99), Checks.STATE);
        x = Checks.with("h2,1,4,9,3;f2;");
        c.due("file(-1, 0)", x.file(-1, 0), Checks.BAD);
        c.due("file(6, 0)", x.file(6, 0), Checks.BAD);
        c.due("file(0, -1)", x.file(0, -1), Checks.BAD);
        c.due("file(0, 4)", x.file(0, 4), Checks.BAD);
        c.due("file(0, 9)", x.file(0, 9), Checks.BAD);
        c.due("file(0, 14)", x.file(0, 14), Checks.BAD);
        c.due("file(5, 14)", x.file(5, 14), Checks.BAD);
        int[] ofNone = {0, Checks.NONE, 0, Checks.NONE};
        int[] ofOne = {1, 2, 0, Checks.NONE};
        for (int what = 0; what < 4; what++) {
            c.due("file(1, " + what + ")", x.file(1, what), ofNone[what]);
            c.due("file(0, " + what + ")", x.file(0, what), ofOne[what]);
        }
        Checks.append(x, 0, "abcd");
        Checks.append(x, 0, "abcd");
        c.due("file(0, 2)", x.file(0, 2), 2);
        c.due("file(0, 11)", x.file(0, 11), 1);
        c.due("file(0, 13)", x.file(0, 13), Checks.NONE);
        x.tick(4);
        x.remove(0);
        c.due("hidden: file(0, 0)", x.file(0, 0), 2);
        c.due("hidden: file(0, 1)", x.file(0, 1), 2);
        c.due("hidden: file(0, 2)", x.file(0, 2), 2);
        c.due("hidden: file(0, 3)", x.file(0, 3), 4);
        c.due("hidden: file(0, 11)", x.file(0, 11), 1);
    }

    private static void as() {
        c.about("promise 25");
        GreatChunks x = new GreatChunks();
        c.due("as without house", x.as(9, 9), Checks.STATE);
        x = Checks.with("h2,1,4,9,3;f1;f2;f3;f4;f5;");
        c.due("as(-1, 0)", x.as(-1, 0), Checks.BAD);
        c.due("as(6, 0)", x.as(6, 0), Checks.BAD);
        c.due("as(0, -1)", x.as(0, -1), Checks.BAD);
        c.due("as(0, 6)", x.as(0, 6), Checks.BAD);
        c.due("as(5, 6): BAD ahead of STATE", x.as(5, 6), Checks.BAD);
        c.due("as(5, 0), none", x.as(5, 0), Checks.STATE);
        String[] isOne = {"110000", "111000", "110100", "100010", "100011"};
        x.remove(1);
        for (int f = 0; f < 5; f++) {
            for (int kind = 0; kind < 6; kind++) {
                int want = isOne[f].charAt(kind) == '1' ? f : Checks.NONE;
                c.due("as(" + f + ", " + kind + ")", x.as(f, kind), want);
            }
        }
    }
}
