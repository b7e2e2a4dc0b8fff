/** The edges of the terms FILES, KINDS, GRACE, BOTH, REMOVED, GONE, and of promises 6, 9 to 12, 20, 22, 24 and 25. */
public final class FileEdgesTest {
    private static final Checks c = new Checks("FileEdgesTest");

    public static void main(String[] args) {
        sixFiles();
        allKinds();
        graces();
        graceIsNought();
        goneJustThen();
        goneByOneTick();
        hiddenAnew();
        broughtInTime();
        bothOfFour();
        bothOfAll();
        bothEndsLeases();
        forgotten();
        readsInOrder();
        sumsOfNothing();
        countsOfGood();
        c.end();
    }

    private static void sixFiles() {
        c.about("FILES 0 to 5; create: how many FILES are THERE");
        GreatChunks x = Checks.with("h2,1,4,5,3;");
        for (int f = 5; f >= 0; f--) {
            c.due("file(" + f + ", 0)", x.file(f, 0), 0);
            c.due("create(" + f + ", 1)", x.create(f, 1), 6 - f);
            c.due("create(" + f + ", 1) again", x.create(f, 1), Checks.STATE);
        }
        c.due("create(6, 1)", x.create(6, 1), Checks.BAD);
        c.due("count(2)", x.count(2), 6);
        x.remove(3);
        c.due("count(2)", x.count(2), 5);
        c.due("count(3)", x.count(3), 1);
        c.due("both to a HIDDEN one", x.both(0, 3), Checks.STATE);
        c.due("bring", x.bring(3), 0);
        c.due("count(3)", x.count(3), 0);
    }

    /** 0 FILE; 1 PLAIN, a FILE; 2 LOG, a PLAIN one; 3 WIDE, a PLAIN one; 4 BRIEF, a FILE; 5 SINGLE, a BRIEF one. */
    private static void allKinds() {
        c.about("KINDS");
        String[] of = {"", "110000", "111000", "110100", "100010", "100011"};
        int[] copies = {0, 7, 7, 15, 7, 1};
        int[] till = {0, 9, 9, 9, 4, 4};
        for (int kind = 1; kind <= 5; kind++) {
            GreatChunks x = Checks.with("h5,3,4,5,5;");
            x.tick(4);
            x.create(2, kind);
            for (int as = 0; as <= 5; as++) {
                c.due("as(2, " + as + ") of " + kind, x.as(2, as), of[kind].charAt(as) == '1' ? 2 : Checks.NONE);
            }
            c.due("append", Checks.append(x, 2, "a"), 0);
            c.due("COPIES of " + kind, x.chunk(0, 4), copies[kind]);
            c.due("put", x.put(2, 0, 'b'), kind == 2 ? Checks.STATE : Integer.bitCount(copies[kind]));
            c.due("both", x.both(2, 4), 1);
            c.due("the same KIND", x.file(4, 1), kind);
            c.due("remove", x.remove(2), till[kind]);
            c.due("file(2, 0)", x.file(2, 0), kind < 4 ? 2 : 0);
            c.due("as of it", x.as(2, kind), kind < 4 ? 2 : Checks.STATE);
        }
    }

    private static void graces() {
        c.about("remove: till when it is HIDDEN; tick: HIDDEN since GRACE or longer");
        for (int grace = 1; grace <= 20; grace++) {
            GreatChunks x = Checks.with("h2,1,4,5," + grace + ";f1;f2;f3;");
            x.tick(7);
            for (int f = 0; f < 3; f++) {
                c.due("remove(" + f + ")", x.remove(f), 7 + grace);
                c.due("file(" + f + ", 3)", x.file(f, 3), 7);
            }
            if (grace > 1) {
                c.due("1 short of GRACE", x.tick(grace - 1), 0);
            }
            c.due("count(3)", x.count(3), 3);
            c.due("GRACE", x.tick(1), 3);
            c.due("count(3)", x.count(3), 0);
            c.due("sums(0)", x.sums(0), 7 + grace);
        }
    }

    private static void graceIsNought() {
        c.about("GONE at once, if its GRACE is 0");
        for (int kind = 1; kind <= 5; kind++) {
            GreatChunks x = Checks.with("h2,1,4,5,0;f" + kind + ";");
            Checks.append(x, 0, "a");
            x.tick(3);
            c.due("remove of " + kind, x.remove(0), 3);
            c.due("file(0, 0)", x.file(0, 0), 0);
            c.due("file(0, 1)", x.file(0, 1), Checks.NONE);
            c.due("file(0, 2)", x.file(0, 2), 0);
            c.due("file(0, 3)", x.file(0, 3), Checks.NONE);
            c.due("file(0, 10)", x.file(0, 10), Checks.NONE);
            c.due("chunk(0, 1)", x.chunk(0, 1), 0);
            c.due("bring", x.bring(0), Checks.STATE);
            c.due("create anew", x.create(0, 1), 1);
            c.due("tick", x.tick(50), 0);
            c.due("it is THERE", x.file(0, 0), 1);
        }
    }

    private static void goneJustThen() {
        c.about("NOW comes on: each FILE is GONE in its own time");
        GreatChunks x = Checks.with("h2,1,4,5,3;f1;f1;f1;f1;f1;f1;");
        for (int f = 0; f < 6; f++) {
            c.due("remove(" + f + ")", x.remove(f), f + 3);
            c.due("tick(1)", x.tick(1), f < 2 ? 0 : 1);
            c.due("count(3)", x.count(3), Math.min(f + 1, 2));
        }
        c.due("tick(1)", x.tick(1), 1);
        c.due("tick(1)", x.tick(1), 1);
        c.due("count(2) and count(3)", x.count(2) + x.count(3), 0);
        c.due("tick(50)", x.tick(50), 0);
    }

    private static void goneByOneTick() {
        c.about("tick: how many FILES are GONE by it, 0 to 6");
        for (int many = 0; many <= 6; many++) {
            GreatChunks x = Checks.with("h2,1,4,5,20;f1;f1;f1;f1;f1;f1;");
            for (int f = 0; f < many; f++) {
                x.remove(5 - f);
            }
            c.due("tick(19)", x.tick(19), 0);
            c.due("tick(50) of " + many, x.tick(50), many);
            c.due("sums(0)", x.sums(0), 69);
            c.due("count(2)", x.count(2), 6 - many);
        }
    }

    private static void hiddenAnew() {
        c.about("HIDDEN (since when): the latest time counts");
        GreatChunks x = Checks.with("h2,1,4,5,3;f1;");
        x.remove(0);
        x.tick(2);
        c.due("bring", x.bring(0), 0);
        c.due("file(0, 3)", x.file(0, 3), Checks.NONE);
        c.due("THERE, it is never GONE", x.tick(50), 0);
        c.due("remove", x.remove(0), 55);
        c.due("file(0, 3)", x.file(0, 3), 52);
        c.due("tick(2)", x.tick(2), 0);
        c.due("bring", x.bring(0), 52);
        c.due("remove", x.remove(0), 57);
        c.due("tick(2)", x.tick(2), 0);
        c.due("tick(1)", x.tick(1), 1);
    }

    private static void broughtInTime() {
        c.about("bring: a FILE that is HIDDEN is THERE again, as it was");
        GreatChunks x = Checks.with("h2,2,4,20,3;f3;");
        Checks.append(x, 0, "abcd");
        Checks.append(x, 0, "ef");
        x.remove(0);
        c.due("its LEASE HOLDS yet", x.chunk(1, 2), 0);
        c.due("read", x.read(0, 0, 0), Checks.STATE);
        c.due("append", Checks.append(x, 0, "g"), Checks.STATE);
        c.due("SHARES of a HIDDEN one", x.chunk(0, 1), 1);
        c.due("in the last moment", x.tick(2), 0);
        c.due("bring", x.bring(0), 0);
        c.due("file(0, 1)", x.file(0, 1), 3);
        c.due("file(0, 2)", x.file(0, 2), 2);
        c.due("file(0, 11)", x.file(0, 11), 1);
        c.due("append", Checks.append(x, 0, "g"), 6);
        x.remove(0);
        c.due("one moment later", x.tick(3), 1);
        c.due("bring", x.bring(0), Checks.STATE);
    }

    private static void bothOfFour() {
        c.about("BOTH: how many CHUNKS, 0 to 4");
        GreatChunks x = Checks.with("h2,1,4,5,3;f1;");
        for (int many = 0; many <= 4; many++) {
            c.due("both(0, 5)", x.both(0, 5), many);
            c.due("file(5, 2)", x.file(5, 2), many);
            for (int k = 0; k < 4; k++) {
                c.due("file(5, 10 and " + k + ")", x.file(5, 10 + k), k < many ? k : Checks.NONE);
            }
            x.undo();
            Checks.append(x, 0, "abcd");
        }
        c.due("sums(1)", x.sums(1), 4);
        c.due("both(0, 1)", x.both(0, 1), 4);
        c.due("a copied file is full as well", Checks.append(x, 1, "a"), Checks.FULL);
        c.due("its last CHUNK is OWNED by then", x.file(1, 13), 4);
        c.due("chunk(3, 1)", x.chunk(3, 1), 1);
        c.due("chunk(2, 1)", x.chunk(2, 1), 2);
    }

    private static void bothOfAll() {
        c.about("BOTH: each 1 SHARE more; no COPY more");
        GreatChunks x = Checks.with("h3,2,4,5,3;f1;");
        Checks.append(x, 0, "abcd");
        Checks.append(x, 0, "ef");
        for (int to = 1; to < 6; to++) {
            c.due("both(" + (to - 1) + ", " + to + ")", x.both(to - 1, to), 2);
            c.due("chunk(0, 1)", x.chunk(0, 1), to + 1);
            c.due("chunk(1, 1)", x.chunk(1, 1), to + 1);
            c.due("sums(3)", x.sums(3), 4);
            c.due("sums(1)", x.sums(1), 2);
        }
        c.due("count(2)", x.count(2), 6);
        for (int f = 0; f < 6; f++) {
            c.due("read(" + f + ", 5, 0)", x.read(f, 5, 0), 'f');
        }
    }

    private static void bothEndsLeases() {
        c.about("BOTH: LEASES of these end");
        GreatChunks x = Checks.with("h2,2,4,20,3;f1;f1;");
        Checks.append(x, 0, "abcd");
        Checks.append(x, 0, "ef");
        Checks.append(x, 1, "gh");
        x.both(0, 2);
        for (int what = 2; what <= 3; what++) {
            c.due("chunk(0, " + what + ")", x.chunk(0, what), Checks.NONE);
            c.due("chunk(1, " + what + ")", x.chunk(1, what), Checks.NONE);
        }
        c.due("not of others", x.chunk(2, 2), 0);
        x.remove(2);
        x.tick(3);
        c.due("GONE, the LEASE is ended yet", x.chunk(1, 2), Checks.NONE);
        c.due("append", Checks.append(x, 0, "g"), 6);
        c.due("LEASED anew", x.chunk(1, 0), 3);
    }

    private static void forgotten() {
        c.about("SHARES; FORGOTTEN: of none");
        GreatChunks x = Checks.with("h2,2,4,5,3;f4;");
        Checks.append(x, 0, "abcd");
        x.both(0, 1);
        x.both(0, 2);
        for (int f = 0; f < 3; f++) {
            c.due("chunk(0, 1)", x.chunk(0, 1), 3 - f);
            c.due("sums(2)", x.sums(2), 0);
            c.due("server(0, 4)", x.server(0, 4), 0);
            c.due("remove(" + f + ")", x.remove(f), 0);
        }
        c.due("chunk(0, 1)", x.chunk(0, 1), 0);
        c.due("sums(2)", x.sums(2), 1);
        c.due("server(0, 4)", x.server(0, 4), 1);
        c.due("its COPIES are GOOD yet", x.chunk(0, 4), 3);
        c.due("beat(0)", x.beat(0), 1);
        c.due("beat(1)", x.beat(1), 1);
        c.due("FORGOTTEN without COPIES", x.sums(2), 1);
        c.due("chunk(0, 4)", x.chunk(0, 4), 0);
        c.due("chunk(0, 0)", x.chunk(0, 0), 2);
        x.create(0, 1);
        Checks.append(x, 0, "a");
        c.due("its number does not come again", x.file(0, 10), 1);
    }

    private static void readsInOrder() {
        c.about("read: DOWN ahead of NONE, STALE; 0 PAD; NONE: EMPTY, or no COPY is there");
        GreatChunks x = Checks.with("h4,3,4,5,3;f1;");
        Checks.append(x, 0, "ab");
        Checks.append(x, 0, "cde");
        c.due("letter", x.read(0, 0, 0), 'a');
        c.due("PAD", x.read(0, 3, 0), 0);
        c.due("EMPTY", x.read(0, 7, 0), Checks.NONE);
        c.due("no COPY", x.read(0, 0, 3), Checks.NONE);
        x.spoil(1, 1);
        x.put(0, 0, 'z');
        c.due("STALE", x.read(0, 0, 1), Checks.STALE);
        c.due("STALE ahead of PAD", x.read(0, 3, 1), Checks.STALE);
        x.down(1);
        x.down(3);
        x.down(0);
        c.due("DOWN ahead of STALE", x.read(0, 0, 1), Checks.DOWN);
        c.due("DOWN ahead of NONE, no COPY", x.read(0, 0, 3), Checks.DOWN);
        c.due("DOWN ahead of NONE, EMPTY", x.read(0, 7, 0), Checks.DOWN);
        c.due("DOWN", x.read(0, 0, 0), Checks.DOWN);
        c.due("letter", x.read(0, 0, 2), 'z');
        x.up(1);
        x.beat(1);
        c.due("thrown away", x.read(0, 0, 1), Checks.NONE);
    }

    private static void sumsOfNothing() {
        c.about("sums of a HOUSE without CHUNKS");
        GreatChunks x = Checks.with("h2,2,4,5,3;f1;");
        for (int what = 0; what <= 6; what++) {
            c.due("sums(" + what + ")", x.sums(what), 0);
        }
        int now = 0;
        for (int n = 1; n <= 50; n++) {
            c.due("tick(" + n + ")", x.tick(n), 0);
            now += n;
            c.due("sums(0)", x.sums(0), now);
        }
    }

    private static void countsOfGood() {
        c.about("sums: letters, PADS in all GOOD COPIES, of SERVERS that are DOWN and FORGOTTEN CHUNKS too, not in STALE ones");
        GreatChunks x = Checks.with("h3,3,4,5,3;f4;f1;");
        Checks.append(x, 0, "ab");
        Checks.append(x, 0, "cde");
        c.due("sums(5)", x.sums(5), 15);
        c.due("sums(6)", x.sums(6), 6);
        x.down(2);
        c.due("DOWN: sums(5)", x.sums(5), 15);
        c.due("DOWN: sums(6)", x.sums(6), 6);
        x.put(0, 0, 'z');
        c.due("one is STALE: sums(4)", x.sums(4), 1);
        c.due("STALE: sums(5)", x.sums(5), 13);
        c.due("STALE: sums(6)", x.sums(6), 4);
        x.remove(0);
        c.due("FORGOTTEN: sums(2)", x.sums(2), 2);
        c.due("FORGOTTEN: sums(5)", x.sums(5), 13);
        c.due("FORGOTTEN: sums(6)", x.sums(6), 4);
        c.due("FORGOTTEN: sums(4)", x.sums(4), 1);
        x.beat(0);
        c.due("thrown away: sums(3)", x.sums(3), 4);
        c.due("thrown away: sums(5)", x.sums(5), 8);
    }
}
