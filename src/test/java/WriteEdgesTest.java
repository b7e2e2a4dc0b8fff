/** The edges of the terms CHUNKS, LEASE, COPY, NEW, OWNED, LEASED, APPEND, PUT, and of promises 7, 8, 19, 21, 22, 23, 27. */
public final class WriteEdgesTest {
    private static final Checks c = new Checks("WriteEdgesTest");

    public static void main(String[] args) {
        fourChunks();
        thirtyChunks();
        newAtThirty();
        padsAtThirty();
        ownedAtThirty();
        newIsLost();
        ownedIsLost();
        leasedIsLost();
        shares();
        leaseTill();
        leaseOfHolder();
        versions();
        justFits();
        everyRecord();
        greatestOfAble();
        padsFromThere();
        tries();
        downEndsLease();
        holderAlone();
        putCells();
        putFilled();
        putLeases();
        putFails();
        places();
        finds();
        lefts();
        c.end();
    }

    private static void fourChunks() {
        c.about("4 of the FILE: FULL");
        for (int size = 4; size <= 9; size++) {
            String whole = "abcdefghi".substring(0, size);
            GreatChunks x = Checks.with("h2,2," + size + ",5,2;f1;");
            for (int k = 0; k < 4; k++) {
                c.due("chunk " + k, Checks.append(x, 0, whole), size * k);
                c.due("file(0, 2)", x.file(0, 2), k + 1);
                c.due("left(0)", x.left(0), 0);
            }
            c.due("one letter more", Checks.append(x, 0, "z"), Checks.FULL);
            c.due("the act is kept", x.count(5), 5);
            c.due("sums(1)", x.sums(1), 4);
            c.due("sums(6), nothing to pad", x.sums(6), 0);
            c.due("file(0, 13)", x.file(0, 13), 3);
            c.due("file(0, 14)", x.file(0, 14), Checks.BAD);
            c.due("read of the last", x.read(0, 4 * size - 1, 0), whole.charAt(size - 1));
            c.due("read beyond", x.read(0, 4 * size, 0), Checks.BAD);
        }
    }

    /** So many chunks that were made: file 0 has the first, the others are forgotten. File 1 is none. */
    private static GreatChunks made(int many) {
        GreatChunks x = Checks.with("h2,2,4,5,2;f1;");
        Checks.append(x, 0, "abc");
        for (int i = 1; i < many; i++) {
            x.create(1, 4);
            Checks.append(x, 1, "a");
            x.remove(1);
        }
        return x;
    }

    private static void thirtyChunks() {
        c.about("CHUNKS have numbers as they are made (0 on, 30 at most)");
        GreatChunks x = made(30);
        c.due("count(4)", x.count(4), 30);
        c.due("sums(1)", x.sums(1), 30);
        c.due("chunk(29, 0)", x.chunk(29, 0), 2);
        c.due("chunk(30, 0)", x.chunk(30, 0), Checks.BAD);
        c.due("part(0, 29, 10)", x.part(0, 29, 10), 'a');
        c.due("part(0, 30, 10)", x.part(0, 30, 10), Checks.BAD);
        c.due("drawn(12, 1, 1)", x.drawn(12, 1, 1), 30);
        c.due("target(1) tells the places yet", x.target(1), 3);
    }

    private static void newAtThirty() {
        c.about("NEW: 30 CHUNKS: FULL; else no SERVER is UP: LOST");
        GreatChunks x = made(29);
        x.create(1, 1);
        c.due("the 30th", Checks.append(x, 1, "a"), 0);
        x = made(29);
        x.create(1, 1);
        x.down(0);
        x.down(1);
        c.due("no SERVER", Checks.append(x, 1, "a"), Checks.LOST);
        x = made(30);
        x.create(1, 1);
        c.due("the 31st", Checks.append(x, 1, "a"), Checks.FULL);
        c.due("file(1, 2)", x.file(1, 2), 0);
        c.due("the act is kept", x.count(5), 6);
        x.down(0);
        x.down(1);
        c.due("FULL ahead of LOST", Checks.append(x, 1, "a"), Checks.FULL);
        c.due("sums(1)", x.sums(1), 30);
    }

    private static void padsAtThirty() {
        c.about("FULL of append() leaves what was done by then");
        GreatChunks x = made(30);
        c.due("no room behind", Checks.append(x, 0, "de"), Checks.FULL);
        c.dueCells(x, 0, 0, "abc_");
        c.dueCells(x, 1, 0, "abc_");
        c.due("left(0)", x.left(0), 0);
        c.due("undo()", x.undo(), 5);
        c.dueCells(x, 0, 0, "abc.");
        c.due("one letter fits", Checks.append(x, 0, "d"), 3);
    }

    private static void ownedAtThirty() {
        c.about("OWNED: 30 CHUNKS: FULL; else no ABLE SERVER: LOST");
        GreatChunks x = made(29);
        x.both(0, 2);
        c.due("the 30th", x.put(2, 0, 'z'), 2);
        c.due("file(2, 10)", x.file(2, 10), 29);
        x = made(30);
        x.both(0, 2);
        c.due("put", x.put(2, 0, 'z'), Checks.FULL);
        c.due("the act is kept", x.count(5), 6);
        c.due("append", Checks.append(x, 2, "d"), Checks.FULL);
        c.due("chunk(0, 1)", x.chunk(0, 1), 2);
        c.due("chunk(0, 0)", x.chunk(0, 0), 2);
        c.due("no lease came", x.chunk(0, 2), Checks.NONE);
        x.down(0);
        x.down(1);
        c.due("put: FULL ahead of LOST", x.put(2, 0, 'z'), Checks.FULL);
        c.due("append: FULL ahead of LOST", Checks.append(x, 2, "d"), Checks.FULL);
        x.up(0);
        x.remove(2);
        x.tick(2);
        c.due("one SHARE alone", x.chunk(0, 1), 1);
        c.due("put needs no CHUNK more", x.put(0, 0, 'z'), 1);
    }

    private static void newIsLost() {
        c.about("NEW: no SERVER is UP: LOST");
        GreatChunks x = Checks.with("h2,1,4,5,2;f1;");
        x.down(1);
        x.down(0);
        c.due("append", Checks.append(x, 0, "a"), Checks.LOST);
        c.due("count(5)", x.count(5), 3);
        c.due("sums(1)", x.sums(1), 0);
        c.due("file(0, 2)", x.file(0, 2), 0);
        x.up(1);
        c.due("one is UP", Checks.append(x, 0, "a"), 0);
        c.due("chunk(0, 4)", x.chunk(0, 4), 2);
    }

    private static void ownedIsLost() {
        c.about("OWNED: no ABLE SERVER: LOST");
        GreatChunks x = Checks.with("h3,2,4,5,2;f1;");
        Checks.append(x, 0, "a");
        x.both(0, 1);
        x.down(0);
        x.down(1);
        c.due("server 2 is UP, but has none", Checks.append(x, 1, "b"), Checks.LOST);
        c.due("put", x.put(1, 0, 'b'), Checks.LOST);
        c.due("sums(1)", x.sums(1), 1);
        c.due("chunk(0, 1)", x.chunk(0, 1), 2);
        c.due("file(1, 10)", x.file(1, 10), 0);
        c.due("count(5)", x.count(5), 6);
        x.up(1);
        c.due("append", Checks.append(x, 1, "b"), 1);
        c.due("sums(1)", x.sums(1), 2);
        c.due("only of the ABLE one", x.chunk(1, 4), 2);
        c.due("of the old one all stay", x.chunk(0, 4), 3);
    }

    private static void leasedIsLost() {
        c.about("LEASED: no ABLE SERVER: LOST");
        GreatChunks x = Checks.with("h3,2,4,5,2;f1;");
        Checks.append(x, 0, "a");
        x.down(0);
        x.down(1);
        c.due("append", Checks.append(x, 0, "b"), Checks.LOST);
        c.due("put", x.put(0, 0, 'b'), Checks.LOST);
        c.due("VERSION", x.chunk(0, 0), 2);
        c.due("GOOD yet", x.chunk(0, 4), 3);
        c.due("count(5)", x.count(5), 5);
        x.up(0);
        c.due("VERSION", x.chunk(0, 0), 2);
        c.due("read", x.read(0, 0, 0), 'a');
        c.due("put at one", x.put(0, 0, 'b'), 1);
        c.due("the other is STALE", x.chunk(0, 5), 2);
    }

    private static void shares() {
        c.about("OWNED, if it has more than 1 SHARES");
        GreatChunks x = Checks.with("h2,1,4,5,2;f1;");
        Checks.append(x, 0, "a");
        c.due("1 SHARE", Checks.append(x, 0, "b"), 1);
        c.due("sums(1)", x.sums(1), 1);
        for (int to = 1; to <= 5; to++) {
            c.due("both(0, " + to + ")", x.both(0, to), 1);
            c.due("chunk(0, 1)", x.chunk(0, 1), to + 1);
        }
        for (int f = 5; f >= 1; f--) {
            c.due("append to " + f, Checks.append(x, f, "c"), 2);
            c.due("chunk(0, 1)", x.chunk(0, 1), f);
            c.due("sums(1)", x.sums(1), 7 - f);
            c.due("file(" + f + ", 10)", x.file(f, 10), 6 - f);
            c.due("its SHARES", x.chunk(6 - f, 1), 1);
        }
        c.due("1 SHARE again", Checks.append(x, 0, "d"), 2);
        c.due("sums(1)", x.sums(1), 6);
        c.due("find d in 0", Checks.find(x, 0, "d"), 1);
        c.due("find d in 1", Checks.find(x, 1, "d"), 0);
    }

    private static void leaseTill() {
        c.about("a LEASE HOLDS, as long as NOW is less");
        for (int lease = 1; lease <= 20; lease++) {
            GreatChunks x = Checks.with("h2,2,9," + lease + ",2;f1;");
            x.tick(3);
            Checks.append(x, 0, "a");
            c.due("till when", x.chunk(0, 3), 3 + lease);
            if (lease > 1) {
                x.tick(lease - 1);
            }
            c.due("HOLDER", x.chunk(0, 2), 0);
            Checks.append(x, 0, "b");
            c.due("not LEASED again", x.chunk(0, 0), 2);
            c.due("till when, as it was", x.chunk(0, 3), 3 + lease);
            x.tick(1);
            c.due("no HOLDER", x.chunk(0, 2), Checks.NONE);
            c.due("no time", x.chunk(0, 3), Checks.NONE);
            Checks.append(x, 0, "c");
            c.due("LEASED again", x.chunk(0, 0), 3);
            c.due("till when", x.chunk(0, 3), 3 + 2 * lease);
        }
    }

    private static void leaseOfHolder() {
        c.about("a LEASE HOLDS: the HOLDER is UP, and its COPY is GOOD");
        GreatChunks x = Checks.with("h3,3,9,20,2;f1;");
        Checks.append(x, 0, "a");
        x.down(1);
        c.due("another that is DOWN", x.chunk(0, 2), 0);
        x.up(1);
        x.spoil(0, 1);
        c.due("put fails at the HOLDER", x.put(0, 0, 'z'), 2);
        c.due("its COPY is STALE", x.chunk(0, 2), Checks.NONE);
        c.due("till when", x.chunk(0, 3), Checks.NONE);
        c.due("append", Checks.append(x, 0, "b"), 1);
        c.due("another HOLDER", x.chunk(0, 2), 1);
        x.down(1);
        c.due("the HOLDER is DOWN", x.chunk(0, 3), Checks.NONE);
        c.due("append", Checks.append(x, 0, "c"), 2);
        c.due("a third HOLDER", x.chunk(0, 2), 2);
        c.due("only one is GOOD", x.chunk(0, 4), 4);
        c.due("VERSION", x.chunk(0, 0), 5);
    }

    private static void versions() {
        c.about("LEASED: VERSION is 1 more, that of COPIES at ABLE SERVERS, too");
        GreatChunks x = Checks.with("h3,3,9,1,2;f1;");
        for (int i = 0; i < 9; i++) {
            c.due("append", Checks.append(x, 0, "a"), i);
            c.due("VERSION", x.chunk(0, 0), i + 2);
            for (int s = 0; s < 3; s++) {
                c.due("part(" + s + ", 0, 0)", x.part(s, 0, 0), i + 2);
            }
            x.tick(1);
        }
        x.down(2);
        x.put(0, 0, 'b');
        c.due("VERSION", x.chunk(0, 0), 11);
        c.due("of an ABLE one", x.part(1, 0, 0), 11);
        c.due("of the other", x.part(2, 0, 0), 10);
        c.due("STALE", x.chunk(0, 5), 4);
        x.up(2);
        x.put(0, 0, 'c');
        c.due("STALE for ever", x.part(2, 0, 0), 10);
    }

    private static void justFits() {
        c.about("APPEND (3): if o and k are more than SIZE");
        for (int size = 4; size <= 9; size++) {
            for (int o = 1; o <= size; o++) {
                for (int k = 1; k <= size; k++) {
                    GreatChunks x = Checks.with("h2,2," + size + ",5,2;f1;");
                    Checks.append(x, 0, "a".repeat(o));
                    boolean fits = o + k <= size;
                    c.due("o " + o + " k " + k + " SIZE " + size, Checks.append(x, 0, "b".repeat(k)), fits ? o : size);
                    c.due("file(0, 2)", x.file(0, 2), fits ? 1 : 2);
                    c.due("sums(6)", x.sums(6), fits ? 0 : 2 * (size - o));
                    c.due("sums(5)", x.sums(5), 2 * (o + k));
                    c.due("left(0)", x.left(0), fits ? size - o - k : size - k);
                    c.due("FILLED", x.part(1, 0, 1), fits ? o + k : size);
                }
            }
        }
    }

    private static void everyRecord() {
        c.about("a RECORD: letters a to z alone, 1 to SIZE");
        for (char letter = 'a'; letter <= 'z'; letter++) {
            GreatChunks x = Checks.with("h2,2,9,5,2;f2;");
            c.due("one " + letter, Checks.append(x, 0, String.valueOf(letter)), 0);
            c.due("nine " + letter, Checks.append(x, 0, String.valueOf(letter).repeat(9)), 9);
            c.due("read", x.read(0, 17, 1), letter);
            c.due("ten", Checks.append(x, 0, String.valueOf(letter).repeat(10)), Checks.BAD);
        }
    }

    private static void greatestOfAble() {
        c.about("APPEND (3): o is the greatest FILLED at ABLE SERVERS");
        GreatChunks x = Checks.with("h2,2,9,5,2;f1;");
        x.spoil(1, 3);
        c.due("append", Checks.append(x, 0, "ab"), Checks.FAILED);
        c.due("FILLED at 0", x.part(0, 0, 1), 6);
        c.due("FILLED at 1", x.part(1, 0, 1), 0);
        c.due("left", x.left(0), 3);
        x.image(0);
        c.due("append behind the greatest", Checks.append(x, 0, "c"), 6);
        x.restore(0);
        x.down(0);
        c.due("left, of ABLE ones", x.left(0), 9);
        c.due("append where the ABLE one is", Checks.append(x, 0, "c"), 0);
        x.up(0);
        c.due("the other is STALE", x.read(0, 0, 0), Checks.STALE);
        c.due("and does not count", Checks.append(x, 0, "d"), 1);
    }

    private static void padsFromThere() {
        c.about("APPEND (3): at each ABLE SERVER all EMPTY CELLS from o on become PAD, FILLED becomes SIZE");
        GreatChunks x = Checks.with("h3,3,6,9,2;f1;");
        Checks.append(x, 0, "a");
        x.spoil(1, 1);
        c.due("1 fails once", Checks.append(x, 0, "b"), 2);
        c.dueCells(x, 1, 0, "a.b...");
        x.down(2);
        c.due("no room", Checks.append(x, 0, "cdef"), 6);
        c.dueCells(x, 0, 0, "abb___");
        c.dueCells(x, 1, 0, "a.b___");
        c.dueCells(x, 2, 0, "abb...");
        c.due("FILLED", x.part(1, 0, 1), 6);
        c.due("FILLED at one that is DOWN", x.part(2, 0, 1), 3);
        c.due("that is GOOD yet", x.chunk(0, 4), 7);
        c.due("the closed CHUNK is not LEASED again", x.chunk(0, 0), 2);
        c.due("no COPY of the NEW one there", x.chunk(1, 4), 3);
        c.due("sums(6)", x.sums(6), 6);
        c.due("a put into a PAD", x.put(0, 5, 'z'), 2);
        c.dueCells(x, 0, 0, "abb__z");
        c.due("a put into a gap", x.put(0, 1, 'y'), 2);
        c.dueCells(x, 1, 0, "ayb__z");
    }

    private static void tries() {
        c.about("APPEND (5): behind the third TRY: FAILED");
        for (int n = 0; n <= 4; n++) {
            GreatChunks x = Checks.with("h3,3,9,5,2;f1;");
            x.spoil(2, n);
            c.due("a TRY fails " + n + " times", Checks.append(x, 0, "ab"), n < 3 ? 2 * n : Checks.FAILED);
            c.due("the act is kept", x.count(5), 2);
            c.due("written at 1", x.part(1, 0, 1), n < 3 ? 2 * n + 2 : 6);
            c.due("written at 2", x.part(2, 0, 1), n < 3 ? 2 * n + 2 : 0);
            c.due("left of n", x.server(2, 5), Math.max(0, n - 3));
        }
        GreatChunks x = Checks.with("h3,3,9,5,2;f1;");
        x.spoil(0, 1);
        x.spoil(1, 1);
        x.spoil(2, 1);
        c.due("the HOLDER first, then both others at once", Checks.append(x, 0, "ab"), 2);
        c.dueCells(x, 0, 0, "abab.....");
        c.dueCells(x, 1, 0, "..ab.....");
        c.dueCells(x, 2, 0, "..ab.....");
    }

    private static void downEndsLease() {
        c.about("APPEND (4): one that is DOWN fails (the LEASE ends)");
        GreatChunks x = Checks.with("h3,3,9,5,2;f1;");
        Checks.append(x, 0, "a");
        x.tick(2);
        x.down(1);
        c.due("a second TRY", Checks.append(x, 0, "b"), 2);
        c.due("LEASED anew", x.chunk(0, 0), 3);
        c.due("till when", x.chunk(0, 3), 7);
        c.due("STALE", x.chunk(0, 5), 2);
        c.dueCells(x, 1, 0, "a........");
        c.due("no more fails", Checks.append(x, 0, "c"), 3);
        c.due("VERSION", x.chunk(0, 0), 3);
        x.down(2);
        x.spoil(0, 1);
        c.due("HOLDER SPOILT, then one DOWN, then the third TRY", Checks.append(x, 0, "d"), 5);
        c.dueCells(x, 0, 0, "abbcdd...");
        x.up(2);
        x.mend();
        x.down(2);
        x.spoil(0, 2);
        c.due("HOLDER SPOILT twice, then one DOWN", Checks.append(x, 0, "e"), Checks.FAILED);
        c.due("the LEASE ended", x.chunk(0, 2), Checks.NONE);
        c.due("the one that is DOWN is GOOD yet", x.chunk(0, 4), 5);
        c.dueCells(x, 0, 0, "abbcdde..");
    }

    private static void holderAlone() {
        c.about("APPEND (4): if the HOLDER is SPOILT, it fails, and that is all");
        GreatChunks x = Checks.with("h3,3,9,5,2;f1;");
        Checks.append(x, 0, "a");
        x.spoil(0, 3);
        x.spoil(1, 2);
        x.down(2);
        c.due("three times", Checks.append(x, 0, "b"), Checks.FAILED);
        c.due("server(0, 5)", x.server(0, 5), 0);
        c.due("the others were not to write", x.server(1, 5), 2);
        c.due("the LEASE did not end", x.chunk(0, 2), 0);
        c.due("VERSION", x.chunk(0, 0), 2);
        for (int s = 0; s < 3; s++) {
            c.dueCells(x, s, 0, "a........");
        }
    }

    private static void putCells() {
        c.about("put: CELL i of a FILE (SIZE times the number of the CHUNK, and the CELL)");
        for (int size = 4; size <= 9; size++) {
            GreatChunks x = Checks.with("h2,2," + size + ",5,2;f1;");
            for (int k = 0; k < 4; k++) {
                c.due("beyond " + k, x.put(0, size * k, 'z'), Checks.BAD);
                Checks.append(x, 0, "abcdefghi".substring(0, size));
                c.due("first of " + k, x.put(0, size * k, 'y'), 2);
                c.due("last of " + k, x.put(0, size * (k + 1) - 1, 'z'), 2);
                c.due("read first", x.read(0, size * k, 1), 'y');
                c.due("read last", x.read(0, size * (k + 1) - 1, 1), 'z');
                c.due("part first", x.part(0, k, 10), 'y');
                c.due("part last", x.part(0, k, 9 + size), 'z');
                c.due("part beyond", x.part(0, k, 10 + size), Checks.BAD);
            }
        }
    }

    private static void putFilled() {
        c.about("PUT: FILLED is 1 more than the CELL, if it was not more");
        for (int cell = 0; cell < 6; cell++) {
            GreatChunks x = Checks.with("h2,2,6,5,2;f1;");
            Checks.append(x, 0, "abc");
            c.due("put", x.put(0, cell, 'z'), 2);
            c.due("FILLED of " + cell, x.part(0, 0, 1), Math.max(3, cell + 1));
            c.due("left of " + cell, x.left(0), 6 - Math.max(3, cell + 1));
        }
    }

    private static void putLeases() {
        c.about("PUT: then LEASED, in any case");
        GreatChunks x = Checks.with("h2,2,4,5,2;f1;");
        Checks.append(x, 0, "a");
        for (int i = 0; i < 4; i++) {
            x.tick(1);
            c.due("put", x.put(0, 0, 'b'), 2);
            c.due("VERSION", x.chunk(0, 0), i + 3);
            c.due("till when", x.chunk(0, 3), i + 6);
        }
    }

    private static void putFails() {
        c.about("PUT: its COPY is STALE from now on (VERSION 0); if all failed: LOST");
        for (int failing = 0; failing < 8; failing++) {
            GreatChunks x = Checks.with("h3,3,4,5,2;f1;");
            Checks.append(x, 0, "abcd");
            for (int s = 0; s < 3; s++) {
                x.spoil(s, failing >> s & 1);
            }
            int wrote = 3 - Integer.bitCount(failing);
            c.due("put, failing " + failing, x.put(0, 1, 'z'), wrote == 0 ? Checks.LOST : wrote);
            c.due("the act is kept", x.count(5), 5);
            c.due("STALE", x.chunk(0, 5), failing);
            c.due("GOOD", x.chunk(0, 4), 7 - failing);
            for (int s = 0; s < 3; s++) {
                c.due("VERSION at " + s, x.part(s, 0, 0), (failing >> s & 1) == 1 ? 0 : 3);
                c.dueCells(x, s, 0, (failing >> s & 1) == 1 ? "abcd" : "azcd");
                c.due("SPOILT no more", x.server(s, 5), 0);
            }
        }
    }

    private static void places() {
        c.about("append: the place is SIZE times the number of the CHUNK in its FILE, and o");
        GreatChunks x = Checks.with("h2,1,9,5,2;f1;f1;");
        Checks.append(x, 1, "zzzzzzzzz");
        for (int k = 0; k < 4; k++) {
            c.due("in chunk " + k, Checks.append(x, 0, "abcdefgh"), 9 * k);
            c.due("the last cell", Checks.append(x, 0, "i"), 9 * k + 8);
        }
        c.due("not its number", x.file(0, 13), 4);
    }

    private static void finds() {
        c.about("find: whole, within one CHUNK each");
        GreatChunks x = Checks.with("h2,2,5,5,2;f1;f1;");
        c.due("in a FILE without CHUNKS", Checks.find(x, 0, "a"), 0);
        Checks.append(x, 0, "aaaaa");
        Checks.append(x, 0, "aaa");
        for (int k = 1; k <= 5; k++) {
            c.due("of " + k, Checks.find(x, 0, "a".repeat(k)), 6 - k + Math.max(0, 4 - k));
        }
        c.due("of SIZE and 1", Checks.find(x, 0, "aaaaaa"), Checks.BAD);
        Checks.append(x, 0, "aaa");
        c.due("not over a PAD", Checks.find(x, 0, "aaaa"), 2);
        x.down(0);
        c.due("at the other SERVER", Checks.find(x, 0, "aaa"), 5);
        x.down(1);
        c.due("not READABLE", Checks.find(x, 0, "b"), Checks.LOST);
        c.due("without CHUNKS nothing is LOST", Checks.find(x, 1, "b"), 0);
    }

    private static void lefts() {
        c.about("left: SIZE less the greatest FILLED; NONE");
        GreatChunks x = Checks.with("h2,2,9,5,2;f1;");
        c.due("no CHUNK", x.left(0), Checks.NONE);
        for (int i = 1; i <= 9; i++) {
            Checks.append(x, 0, "a");
            c.due("left of " + i, x.left(0), 9 - i);
            c.due("file(0, 2)", x.file(0, 2), 1);
        }
        Checks.append(x, 0, "a");
        c.due("in the NEW last CHUNK", x.left(0), 8);
        x.down(0);
        c.due("one is ABLE", x.left(0), 8);
        x.down(1);
        c.due("none is", x.left(0), Checks.NONE);
        x.up(1);
        x.spoil(1, 3);
        c.due("FAILED", Checks.append(x, 0, "b"), Checks.FAILED);
        c.due("nothing is written", x.left(0), 8);
    }
}
