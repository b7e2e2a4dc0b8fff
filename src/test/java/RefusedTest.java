import java.util.function.ToLongFunction;

/**
 * Terms: refusals are the first that fits of BAD, STATE, FULL, but as told, and change nothing but the tape, as told.
 * Each refused call is made on one of two objects that are alike; they must be alike yet, and behind each undo.
 */
public final class RefusedTest {
    private static final Checks c = new Checks("RefusedTest");
    private static final int LEAST = Integer.MIN_VALUE;
    private static final int MOST = Integer.MAX_VALUE;

    public static void main(String[] args) {
        withoutHouse();
        files();
        servers();
        looks();
        foretold();
        images();
        fullTape();
        emptiedTape();
        readHouses();
        c.end();
    }

    /**
     * Files: 0 plain with chunks 0, 1, 1 a log with chunk 2, 2 hidden with chunk 3, 3 wide without chunks, 4 and 5 none.
     * Server 1 is down, server 0 spoilt by 2. Six acts can be undone.
     */
    private static GreatChunks inUse() {
        GreatChunks x = Checks.with("h3,2,5,9,4;s4;s5;s6;f1;f2;f4;f3;");
        Checks.append(x, 0, "abcde");
        Checks.append(x, 0, "fg");
        Checks.append(x, 1, "hij");
        x.remove(2);
        x.create(2, 1);
        Checks.append(x, 2, "kl");
        x.tick(1);
        x.remove(2);
        x.down(1);
        x.put(0, 0, 'z');
        x.spoil(0, 2);
        return x;
    }

    private static void refused(String call, int want, ToLongFunction<GreatChunks> made) {
        GreatChunks x = inUse();
        GreatChunks y = inUse();
        Checks.feed(x, "q7");
        c.due(call, made.applyAsLong(x), want);
        c.due(call + ": the tape stays", x.count(6), 2);
        c.due(call + ": fault()", x.fault(), 0);
        c.dueAlike(call, x, y);
    }

    private static void bad(String call, ToLongFunction<GreatChunks> made) {
        refused(call, Checks.BAD, made);
    }

    private static void state(String call, ToLongFunction<GreatChunks> made) {
        refused(call, Checks.STATE, made);
    }

    private static void bare(String call, int want, ToLongFunction<GreatChunks> made) {
        GreatChunks x = new GreatChunks();
        Checks.feed(x, "q7");
        c.due(call, made.applyAsLong(x), want);
        c.due(call + ": the tape stays", x.count(6), 2);
        for (int what = 0; what < 6; what++) {
            c.due(call + ": count(" + what + ")", x.count(what), 0);
        }
        c.due(call + ": no house came", x.sums(0), Checks.STATE);
        c.due(call + ": no image came", x.restore(0), Checks.STATE);
    }

    /** STATE: no HOUSE, ahead of BAD where it is told so; where a SERVER, a CHUNK is named, there is no such thing: BAD. */
    private static void withoutHouse() {
        c.about("no HOUSE");
        for (int n : new int[] {LEAST, -1, 0, 1, 9, MOST}) {
            bare("create", Checks.STATE, x -> x.create(n, n));
            bare("put", Checks.STATE, x -> x.put(n, n, n));
            bare("both", Checks.STATE, x -> x.both(n, n));
            bare("remove", Checks.STATE, x -> x.remove(n));
            bare("bring", Checks.STATE, x -> x.bring(n));
            bare("tick", Checks.STATE, x -> x.tick(n));
            bare("down", Checks.BAD, x -> x.down(n));
            bare("up", Checks.BAD, x -> x.up(n));
            bare("spoil", Checks.BAD, x -> x.spoil(n, n));
            bare("beat", Checks.BAD, x -> x.beat(n));
            bare("server", Checks.BAD, x -> x.server(n, 0));
            bare("chunk", Checks.BAD, x -> x.chunk(n, 0));
            bare("part", Checks.BAD, x -> x.part(n, n, 0));
            bare("file", Checks.STATE, x -> x.file(n, n));
            bare("read", Checks.STATE, x -> x.read(n, n, n));
            bare("sums", Checks.STATE, x -> x.sums(n));
            bare("as", Checks.STATE, x -> x.as(n, n));
            bare("target", Checks.STATE, x -> x.target(n));
            bare("left", Checks.STATE, x -> x.left(n));
            bare("strength", Checks.STATE, x -> x.strength(n));
            bare("odds", Checks.STATE, x -> x.odds(n, n, n));
            bare("drawn", Checks.STATE, x -> x.drawn(n, n, n));
        }
        bare("undo", Checks.STATE, x -> x.undo());
        bare("mend", Checks.STATE, x -> x.mend());
        bare("mends", Checks.STATE, x -> x.mends());
        bare("image(0)", Checks.STATE, x -> x.image(0));
        bare("image(1)", Checks.STATE, x -> x.image(1));
        bare("image(2): BAD first", Checks.BAD, x -> x.image(2));
        bare("image(-1): BAD first", Checks.BAD, x -> x.image(-1));
        bare("restore(1)", Checks.STATE, x -> x.restore(1));
        bare("restore(2): BAD first", Checks.BAD, x -> x.restore(2));
        bare("count(7)", Checks.BAD, x -> x.count(7));
        bare("count(-1)", Checks.BAD, x -> x.count(-1));
    }

    private static void files() {
        c.about("create, put, both, remove, bring, tick");
        for (int n : new int[] {LEAST, -1, 6, MOST}) {
            bad("create(" + n + ", 1)", x -> x.create(n, 1));
            bad("create(4, " + n + ")", x -> x.create(4, n));
            bad("create(0, " + n + "): ahead of STATE", x -> x.create(0, n));
            bad("put(" + n + ", 0, 'a')", x -> x.put(n, 0, 'a'));
            bad("both(" + n + ", 4)", x -> x.both(n, 4));
            bad("both(0, " + n + ")", x -> x.both(0, n));
            bad("both(4, " + n + "): ahead of STATE", x -> x.both(4, n));
            bad("both(" + n + ", 0): ahead of STATE", x -> x.both(n, 0));
            bad("remove(" + n + ")", x -> x.remove(n));
            bad("bring(" + n + ")", x -> x.bring(n));
        }
        bad("create(4, 0)", x -> x.create(4, 0));
        state("create(0, 1), THERE", x -> x.create(0, 1));
        state("create(2, 1), HIDDEN", x -> x.create(2, 1));
        for (int i : new int[] {LEAST, -1, 10, MOST}) {
            bad("put(0, " + i + ", 'a')", x -> x.put(0, i, 'a'));
            state("put(1, " + i + ", 'a'), a LOG: ahead of BAD of i", x -> x.put(1, i, 'a'));
            state("put(2, " + i + ", 'a'), HIDDEN: ahead of BAD of i", x -> x.put(2, i, 'a'));
            state("put(4, " + i + ", 'a'), none: ahead of BAD of i", x -> x.put(4, i, 'a'));
        }
        for (int letter : new int[] {LEAST, -1, 0, 96, 123, 256 + 97, MOST}) {
            bad("put(0, 0, " + letter + ")", x -> x.put(0, 0, letter));
            state("put(1, 0, " + letter + "), a LOG: ahead of BAD of the letter", x -> x.put(1, 0, letter));
            state("put(4, 0, " + letter + "), none: ahead of BAD of the letter", x -> x.put(4, 0, letter));
        }
        state("put(1, 0, 'a'), a LOG", x -> x.put(1, 0, 'a'));
        state("put(2, 0, 'a'), HIDDEN", x -> x.put(2, 0, 'a'));
        bad("put(3, 0, 'a'), no CHUNK", x -> x.put(3, 0, 'a'));
        state("both(4, 5), from none", x -> x.both(4, 5));
        state("both(2, 5), from HIDDEN", x -> x.both(2, 5));
        state("both(0, 1), to THERE", x -> x.both(0, 1));
        state("both(0, 2), to HIDDEN", x -> x.both(0, 2));
        state("both(0, 0), to itself", x -> x.both(0, 0));
        state("both(4, 4), none to itself", x -> x.both(4, 4));
        state("remove(2), HIDDEN", x -> x.remove(2));
        state("remove(4), none", x -> x.remove(4));
        state("bring(0), THERE", x -> x.bring(0));
        state("bring(4), none", x -> x.bring(4));
        for (int n : new int[] {LEAST, -1, 0, 51, MOST}) {
            bad("tick(" + n + ")", x -> x.tick(n));
        }
    }

    private static void servers() {
        c.about("down, up, spoil, beat");
        for (int n : new int[] {LEAST, -1, 3, 5, 32, MOST}) {
            bad("down(" + n + ")", x -> x.down(n));
            bad("up(" + n + ")", x -> x.up(n));
            bad("spoil(" + n + ", 0)", x -> x.spoil(n, 0));
            bad("beat(" + n + ")", x -> x.beat(n));
        }
        state("down(1), DOWN", x -> x.down(1));
        state("up(0), UP", x -> x.up(0));
        state("beat(1), DOWN", x -> x.beat(1));
        for (int n : new int[] {LEAST, -1, 10, MOST}) {
            bad("spoil(0, " + n + ")", x -> x.spoil(0, n));
            bad("spoil(1, " + n + ")", x -> x.spoil(1, n));
        }
    }

    private static void looks() {
        c.about("server, chunk, file, part, read, sums, as, count, feed");
        for (int n : new int[] {LEAST, -1, 7, 8, MOST}) {
            bad("server(0, " + n + ")", x -> x.server(0, n));
            bad("server(" + n + ", 0)", x -> x.server(n, 0));
            bad("chunk(0, " + n + ")", x -> x.chunk(0, n));
            bad("chunk(" + n + ", 0)", x -> x.chunk(n, 0));
            bad("file(0, " + n + ")", x -> x.file(0, n));
            bad("file(" + n + ", 0)", x -> x.file(n, 0));
            bad("part(0, 0, " + n + ")", x -> x.part(0, 0, n));
            bad("part(" + n + ", 0, 0)", x -> x.part(n, 0, 0));
            bad("part(0, " + n + ", 0)", x -> x.part(0, n, 0));
            bad("read(" + n + ", 0, 0)", x -> x.read(n, 0, 0));
            bad("read(0, 0, " + n + ")", x -> x.read(0, 0, n));
            bad("read(4, 0, " + n + "): ahead of STATE", x -> x.read(4, 0, n));
            bad("sums(" + n + ")", x -> x.sums(n));
            bad("as(" + n + ", 0)", x -> x.as(n, 0));
            bad("as(0, " + n + ")", x -> x.as(0, n));
            bad("as(4, " + n + "): ahead of STATE", x -> x.as(4, n));
            bad("count(" + n + ")", x -> x.count(n));
        }
        for (int i : new int[] {LEAST, -1, 10, MOST}) {
            bad("read(0, " + i + ", 0)", x -> x.read(0, i, 0));
            bad("read(0, " + i + ", 1): ahead of DOWN", x -> x.read(0, i, 1));
            state("read(4, " + i + ", 0): ahead of BAD of i", x -> x.read(4, i, 0));
            state("read(2, " + i + ", 0), HIDDEN: ahead of BAD of i", x -> x.read(2, i, 0));
        }
        bad("read(3, 0, 0), no CHUNK", x -> x.read(3, 0, 0));
        state("read(2, 0, 0), HIDDEN", x -> x.read(2, 0, 0));
        state("read(4, 0, 1), none: ahead of DOWN", x -> x.read(4, 0, 1));
        state("as(4, 0), none", x -> x.as(4, 0));
        for (int letter : new int[] {LEAST, -1, 256, MOST}) {
            bad("feed(" + letter + ")", x -> x.feed(letter));
        }
    }

    private static void foretold() {
        c.about("target, left, strength, odds, drawn");
        for (int n : new int[] {LEAST, -1, 6, MOST}) {
            bad("target(" + n + ")", x -> x.target(n));
            bad("left(" + n + ")", x -> x.left(n));
            bad("strength(" + n + ")", x -> x.strength(n));
            bad("odds(" + n + ", 1, 0)", x -> x.odds(n, 1, 0));
            bad("odds(0, 1, " + n + ")", x -> x.odds(0, 1, n));
            bad("odds(4, 1, " + n + "): ahead of STATE", x -> x.odds(4, 1, n));
            bad("drawn(1, 1, " + n + ")", x -> x.drawn(1, 1, n));
        }
        bad("target(0)", x -> x.target(0));
        bad("odds(0, 1, 2)", x -> x.odds(0, 1, 2));
        for (int file : new int[] {2, 4}) {
            state("left(" + file + ")", x -> x.left(file));
            state("strength(" + file + ")", x -> x.strength(file));
            state("odds(" + file + ", 1, 0)", x -> x.odds(file, 1, 0));
        }
        for (int p : new int[] {LEAST, -1, 11, MOST}) {
            bad("odds(0, " + p + ", 0)", x -> x.odds(0, p, 0));
            bad("odds(4, " + p + ", 0): ahead of STATE", x -> x.odds(4, p, 0));
        }
        for (int n : new int[] {LEAST, -1, 13, MOST}) {
            bad("drawn(" + n + ", 1, 0)", x -> x.drawn(n, 1, 0));
        }
        for (int seed : new int[] {LEAST, -1, 0, 1000000, MOST}) {
            bad("drawn(1, " + seed + ", 0)", x -> x.drawn(1, seed, 0));
        }
        bad("drawn(1, 1, 3)", x -> x.drawn(1, 1, 3));
    }

    private static void images() {
        c.about("image, restore");
        for (int k : new int[] {LEAST, -1, 2, MOST}) {
            bad("image(" + k + ")", x -> x.image(k));
            bad("restore(" + k + ")", x -> x.restore(k));
        }
        state("restore(0), none kept", x -> x.restore(0));
        state("restore(1), none kept", x -> x.restore(1));
        refused("mend(), NONE", Checks.NONE, x -> {
            x.undo();
            x.undo();
            x.undo();
            return x.mend();
        }, 3);
    }

    /** A refusal behind some undos: both objects have these. */
    private static void refused(String call, int want, ToLongFunction<GreatChunks> made, int undos) {
        GreatChunks x = inUse();
        GreatChunks y = inUse();
        for (int i = 0; i < undos; i++) {
            y.undo();
        }
        c.due(call, made.applyAsLong(x), want);
        c.dueAlike(call, x, y);
    }

    /** FULL of feed() changes nothing: the tape is the 80 bytes that it had. */
    private static void fullTape() {
        c.about("feed: FULL");
        GreatChunks x = new GreatChunks();
        Checks.feed(x, "h2,1,4,1,0;f1;f2;");
        for (int i = 17; i < 80; i++) {
            x.feed('a');
        }
        for (int i = 0; i < 5; i++) {
            c.due("feed of an 81st", x.feed(';'), Checks.FULL);
            c.due("feed(-1): BAD ahead of FULL", x.feed(-1), Checks.BAD);
            c.due("count(6)", x.count(6), 80);
        }
        c.due("the tape is as it was", x.house(), -1000117);
    }

    /** append() and find() empty the tape in any case, and change nothing else if they are refused. */
    private static void emptiedTape() {
        c.about("append, find: the tape, empty then in any case");
        emptied("0 bytes", "", 0, Checks.BAD);
        emptied("6 letters of 5", "abcdef", 0, Checks.BAD);
        emptied("80 letters", "a".repeat(80), 0, Checks.BAD);
        emptied("file -1", "a", -1, Checks.BAD);
        emptied("file 6", "a", 6, Checks.BAD);
        emptied("file 4, none", "a", 4, Checks.STATE);
        emptied("file 2, HIDDEN", "a", 2, Checks.STATE);
        emptied("file 4, none, no RECORD: BAD ahead of STATE", "", 4, Checks.BAD);
        emptied("file 2, HIDDEN, no RECORD: BAD ahead of STATE", "abcdef", 2, Checks.BAD);
        for (int sign = 0; sign < 256; sign++) {
            if (sign < 'a' || sign > 'z') {
                String one = String.valueOf((char) sign);
                c.due("a RECORD with " + sign + " alone", Checks.append(inUse(), 0, one), Checks.BAD);
                c.due("a RECORD with " + sign + " first", Checks.append(inUse(), 0, one + "ab"), Checks.BAD);
                c.due("a RECORD with " + sign + " last", Checks.append(inUse(), 0, "ab" + one), Checks.BAD);
                c.due("find of " + sign, Checks.find(inUse(), 0, "a" + one), Checks.BAD);
            }
        }
        GreatChunks x = new GreatChunks();
        c.due("append without HOUSE: ahead of BAD", Checks.append(x, -1, "A"), Checks.STATE);
        c.due("count(6)", x.count(6), 0);
        c.due("find without HOUSE: ahead of BAD", Checks.find(x, 6, "7"), Checks.STATE);
        c.due("count(6)", x.count(6), 0);
    }

    private static void emptied(String call, String tape, int file, int want) {
        GreatChunks x = inUse();
        GreatChunks y = inUse();
        GreatChunks z = inUse();
        c.due("append, " + call, Checks.append(x, file, tape), want);
        c.due("append, " + call + ": count(6)", x.count(6), 0);
        c.due("find, " + call, Checks.find(y, file, tape), want);
        c.due("find, " + call + ": count(6)", y.count(6), 0);
        c.dueAlike("append, " + call, x, z);
        c.dueAlike("find, " + call, y, inUse());
    }

    /** A FAULT of house(): all but the tape and what fault() tells stays, acts and images too. */
    private static void readHouses() {
        c.about("house() with a FAULT");
        String[] tapes = {"", "h", "h9", "h2,1,4,1,0", "h2,1,4,1,0;s0;", "h2,1,4,1,0;s1;s1;s1;", "h5,3,9,20,20;s9;s9;s9;f1;f2;x",
            "h5,3,9,20,20;f1;f1;f1;f1;f1;f1;f1;"};
        for (String tape : tapes) {
            GreatChunks x = inUse();
            GreatChunks y = inUse();
            x.image(1);
            c.due(tape, Checks.house(x, tape) <= -1000100 ? 1 : 0, 1);
            c.due(tape + ": count(6)", x.count(6), 0);
            c.due(tape + ": fault()", x.fault() > 0 ? 1 : 0, 1);
            c.dueAlike(tape, x, y);
            c.due(tape + ": the image stays", x.restore(1), 1);
            c.due(tape + ": the image is as it was", Checks.look(x).equals(Checks.look(restored())) ? 1 : 0, 1);
        }
    }

    private static GreatChunks restored() {
        GreatChunks x = inUse();
        x.image(0);
        x.restore(0);
        return x;
    }
}
