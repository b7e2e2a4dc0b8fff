import java.util.function.IntPredicate;
import java.util.function.ToLongBiFunction;

/** Promises 2 to 34: of each number that a call takes, just those that the document tells are taken; others are BAD. */
public final class RangesTest {
    private static final Checks c = new Checks("RangesTest");
    private static final int[] FAR = {Integer.MIN_VALUE, Integer.MIN_VALUE + 1, -1000007, -1000000, -65536, 65536, 1 << 20,
        999999, 1000000, 1 << 30, Integer.MAX_VALUE - 1, Integer.MAX_VALUE};

    public static void main(String[] args) {
        whatIsTold();
        whatIsDone();
        whatThereIs();
        foretold();
        numbersOfHouses();
        c.end();
    }

    /** Five servers, all up; file 0 plain with two chunks of six cells, 1 hidden, 2 to 5 none. */
    private static GreatChunks inUse() {
        GreatChunks x = Checks.with("h5,2,6,9,4;f1;f1;");
        Checks.append(x, 0, "abcdef");
        Checks.append(x, 0, "gh");
        x.remove(1);
        return x;
    }

    /** Each number is tried on a new object; what is taken answers something else than BAD. */
    private static void taken(String call, IntPredicate isTold, ToLongBiFunction<GreatChunks, Integer> made) {
        c.about(call);
        for (int n = -40; n <= 400; n++) {
            taken(n, isTold, made);
        }
        for (int n : FAR) {
            taken(n, isTold, made);
        }
    }

    private static void taken(int n, IntPredicate isTold, ToLongBiFunction<GreatChunks, Integer> made) {
        boolean isBad = made.applyAsLong(inUse(), n) == Checks.BAD;
        c.due(n + " is BAD", isBad ? 1 : 0, isTold.test(n) ? 0 : 1);
    }

    private static IntPredicate from(int least, int most) {
        return n -> n >= least && n <= most;
    }

    private static void whatIsTold() {
        taken("feed(n)", from(0, 255), (x, n) -> x.feed(n));
    }

    private static void whatIsDone() {
        taken("create(n, 1)", from(0, 5), (x, n) -> x.create(n, 1));
        taken("create(2, n)", from(1, 5), (x, n) -> x.create(2, n));
        taken("append(n)", from(0, 5), (x, n) -> Checks.append(x, n, "a"));
        taken("append of n letters", from(1, 6), (x, n) -> Checks.append(x, 0, "a".repeat(Math.max(0, Math.min(n, 80)))));
        taken("put(n, 0, 'a')", from(0, 5), (x, n) -> x.put(n, 0, 'a'));
        taken("put(0, n, 'a')", from(0, 11), (x, n) -> x.put(0, n, 'a'));
        taken("put(0, 0, n)", from(97, 122), (x, n) -> x.put(0, 0, n));
        taken("both(n, 2)", from(0, 5), (x, n) -> x.both(n, 2));
        taken("both(0, n)", from(0, 5), (x, n) -> x.both(0, n));
        taken("remove(n)", from(0, 5), (x, n) -> x.remove(n));
        taken("bring(n)", from(0, 5), (x, n) -> x.bring(n));
        taken("tick(n)", from(1, 50), (x, n) -> x.tick(n));
        taken("down(n)", from(0, 4), (x, n) -> x.down(n));
        taken("up(n)", from(0, 4), (x, n) -> x.up(n));
        taken("spoil(n, 0)", from(0, 4), (x, n) -> x.spoil(n, 0));
        taken("spoil(0, n)", from(0, 9), (x, n) -> x.spoil(0, n));
        taken("beat(n)", from(0, 4), (x, n) -> x.beat(n));
    }

    private static void whatThereIs() {
        taken("server(n, 0)", from(0, 4), (x, n) -> x.server(n, 0));
        taken("server(0, n)", from(0, 6), (x, n) -> x.server(0, n));
        taken("chunk(n, 0)", from(0, 1), (x, n) -> x.chunk(n, 0));
        taken("chunk(0, n)", from(0, 6), (x, n) -> x.chunk(0, n));
        taken("file(n, 0)", from(0, 5), (x, n) -> x.file(n, 0));
        taken("file(0, n)", from(0, 3).or(from(10, 13)), (x, n) -> x.file(0, n));
        taken("file(5, n), none", from(0, 3).or(from(10, 13)), (x, n) -> x.file(5, n));
        taken("part(n, 0, 0)", from(0, 4), (x, n) -> x.part(n, 0, 0));
        taken("part(0, n, 0)", from(0, 1), (x, n) -> x.part(0, n, 0));
        taken("part(0, 0, n)", from(0, 1).or(from(10, 15)), (x, n) -> x.part(0, 0, n));
        taken("part(4, 0, n), no COPY", from(0, 1).or(from(10, 15)), (x, n) -> x.part(4, 0, n));
        taken("read(n, 0, 0)", from(0, 5), (x, n) -> x.read(n, 0, 0));
        taken("read(0, n, 0)", from(0, 11), (x, n) -> x.read(0, n, 0));
        taken("read(0, 0, n)", from(0, 4), (x, n) -> x.read(0, 0, n));
        taken("find(n)", from(0, 5), (x, n) -> Checks.find(x, n, "a"));
        taken("find of n letters", from(1, 6), (x, n) -> Checks.find(x, 0, "a".repeat(Math.max(0, Math.min(n, 80)))));
        taken("sums(n)", from(0, 6), (x, n) -> x.sums(n));
        taken("as(n, 0)", from(0, 5), (x, n) -> x.as(n, 0));
        taken("as(0, n)", from(0, 5), (x, n) -> x.as(0, n));
    }

    private static void foretold() {
        taken("target(n)", from(1, 5), (x, n) -> x.target(n));
        taken("left(n)", from(0, 5), (x, n) -> x.left(n));
        taken("strength(n)", from(0, 5), (x, n) -> x.strength(n));
        taken("odds(n, 1, 0)", from(0, 5), (x, n) -> x.odds(n, 1, 0));
        taken("odds(0, n, 0)", from(0, 10), (x, n) -> x.odds(0, n, 0));
        taken("odds(0, 1, n)", from(0, 1), (x, n) -> x.odds(0, 1, n));
        taken("drawn(n, 1, 0)", from(0, 12), (x, n) -> x.drawn(n, 1, 0));
        taken("drawn(1, n, 0)", from(1, 999999), (x, n) -> x.drawn(1, n, 0));
        taken("drawn(1, 1, n)", from(0, 2), (x, n) -> x.drawn(1, 1, n));
        taken("image(n)", from(0, 1), (x, n) -> x.image(n));
        taken("restore(n)", from(0, 1), (x, n) -> x.restore(n));
        taken("count(n)", from(0, 6), (x, n) -> x.count(n));
    }

    /** 2 to 5; 1 to 3; 4 to 9; 1 to 20; 0 to 20; ROOM 1 to 9; KIND 1 to 5: each number of two figures at each place. */
    private static void numbersOfHouses() {
        number("h", ",1,4,1,0;", 2, 5);
        number("h2,", ",4,1,0;", 1, 3);
        number("h2,1,", ",1,0;", 4, 9);
        number("h2,1,4,", ",0;", 1, 20);
        number("h2,1,4,1,", ";", 0, 20);
        number("h2,1,4,1,0;s", ";", 1, 9);
        number("h2,1,4,1,0;s1;s", ";", 1, 9);
        number("h2,1,4,1,0;f", ";", 1, 5);
        number("h2,1,4,1,0;s2;f1;f1;f1;f1;f1;f", ";", 1, 5);
    }

    private static void number(String ahead, String behind, int least, int most) {
        c.about("house, the number behind " + ahead);
        for (int n = 0; n < 100; n++) {
            told(ahead, String.valueOf(n), behind, n >= least && n <= most);
            told(ahead, n < 10 ? "0" + n : String.valueOf(n), behind, n >= least && n <= most);
        }
        for (String many : new String[] {"000", "001", "002", "004", "009", "100", "255", "999", "0000", "00000002"}) {
            GreatChunks x = new GreatChunks();
            c.due(many, Checks.house(x, ahead + many + behind), -1000100 - ahead.length());
            c.due(many + ": fault()", x.fault(), 1);
        }
    }

    private static void told(String ahead, String number, String behind, boolean isTold) {
        GreatChunks x = new GreatChunks();
        int got = Checks.house(x, ahead + number + behind);
        c.due(number + " is taken", got >= 0 ? 1 : 0, isTold ? 1 : 0);
        c.due(number + ": fault()", x.fault(), isTold ? 0 : 2);
        if (!isTold) {
            c.due(number, got, -1000100 - ahead.length());
        }
    }
}
