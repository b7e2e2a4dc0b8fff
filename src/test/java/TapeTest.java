/** Promises 1 to 4: a new object, feed, house, fault. */
public final class TapeTest {
    private static final Checks c = new Checks("TapeTest");

    public static void main(String[] args) {
        newObject();
        bytes();
        sound();
        faults();
        whatStays();
        whatComesAnew();
        nothingOfTheOld();
        c.end();
    }

    private static void newObject() {
        c.about("promise 1");
        GreatChunks x = new GreatChunks();
        for (int what = 0; what <= 6; what++) {
            c.due("count(" + what + ")", x.count(what), 0);
        }
        c.due("fault()", x.fault(), 0);
        c.due("undo()", x.undo(), Checks.STATE);
        c.due("sums(0)", x.sums(0), Checks.STATE);
        c.due("server(0, 0)", x.server(0, 0), Checks.BAD);
    }

    private static void bytes() {
        c.about("promise 2");
        GreatChunks x = new GreatChunks();
        c.due("feed(-1)", x.feed(-1), Checks.BAD);
        c.due("feed(256)", x.feed(256), Checks.BAD);
        c.due("feed(min)", x.feed(Integer.MIN_VALUE), Checks.BAD);
        c.due("feed(0)", x.feed(0), 1);
        c.due("feed(255)", x.feed(255), 2);
        for (int i = 3; i <= 80; i++) {
            c.due("feed " + i, x.feed('a'), i);
        }
        c.due("feed 81", x.feed('a'), Checks.FULL);
        c.due("feed(256) when full", x.feed(256), Checks.BAD);
        c.due("count(6)", x.count(6), 80);
        c.due("house()", x.house(), -1000100);
        c.due("count(6) behind house", x.count(6), 0);
        c.due("feed again", x.feed('h'), 1);
    }

    private static void sound() {
        c.about("promise 3, sound tapes");
        rightly("h2,1,4,1,0;", 0);
        rightly("h02,01,04,01,00;", 0);
        rightly("h5,3,9,20,20;", 0);
        rightly("h5,3,9,20,20;s9;s1;s09;s5;s2;", 0);
        rightly("h2,1,4,1,0;f1;", 1);
        rightly("h2,1,4,1,0;s1;f5;f01;", 2);
        rightly("h2,1,4,1,0;f1;f2;f3;f4;f5;f1;", 6);
    }

    private static void rightly(String text, int files) {
        GreatChunks x = new GreatChunks();
        c.due(text, Checks.house(x, text), files);
        c.due("fault() of " + text, x.fault(), 0);
        c.due("count(2) of " + text, x.count(2), files);
        c.due("count(0) of " + text, x.count(0), text.charAt(1) == '0' ? text.charAt(2) - '0' : text.charAt(1) - '0');
    }

    private static void faults() {
        c.about("promises 3 and 4, faults");
        String head = "h2,1,4,1,0;";
        wrongly("", 0, 1);
        wrongly("x", 0, 1);
        wrongly("H2", 0, 1);
        wrongly(" h2", 0, 1);
        wrongly("2", 0, 1);
        wrongly("h", 1, 1);
        wrongly("h,", 1, 1);
        wrongly("hh", 1, 1);
        wrongly("h222", 1, 1);
        wrongly("h002,1,4,1,0;", 1, 1);
        wrongly("h1234567", 1, 1);
        wrongly("h2,111,", 3, 1);
        wrongly("h1,9,9,", 1, 2);
        wrongly("h6,", 1, 2);
        wrongly("h99", 1, 2);
        wrongly("h2", 2, 1);
        wrongly("h2;", 2, 1);
        wrongly("h2,", 3, 1);
        wrongly("h2,0,4,1,0;", 3, 2);
        wrongly("h2,4,4,1,0;", 3, 2);
        wrongly("h2,1,3,1,0;", 5, 2);
        wrongly("h2,1,10,1,0;", 5, 2);
        wrongly("h2,1,4,0,0;", 7, 2);
        wrongly("h2,1,4,21,0;", 7, 2);
        wrongly("h2,1,4,1,21;", 9, 2);
        wrongly("h2,1,4,1,0", 10, 1);
        wrongly("h2,1,4,1,0,", 10, 1);
        wrongly(head + "x", 11, 1);
        wrongly(head + ";", 11, 1);
        wrongly(head + "5", 11, 1);
        wrongly(head + "555", 11, 1);
        wrongly(head + " ", 11, 1);
        wrongly(head + "s", 12, 1);
        wrongly(head + "s;", 12, 1);
        wrongly(head + "s0;", 12, 2);
        wrongly(head + "s10;", 12, 2);
        wrongly(head + "s100;", 12, 1);
        wrongly(head + "s1", 13, 1);
        wrongly(head + "s1,", 13, 1);
        wrongly(head + "s1;s1;s1;", 17, 3);
        wrongly(head + "s1;s1;s", 17, 3);
        wrongly(head + "s1;s1;s00;", 17, 3);
        wrongly(head + "s1;s0;s1;", 15, 2);
        wrongly(head + "f", 12, 1);
        wrongly(head + "f0;", 12, 2);
        wrongly(head + "f6;", 12, 2);
        wrongly(head + "f1;s1;", 14, 1);
        wrongly(head + "f1;h", 14, 1);
        wrongly(head + "f1;f1;f1;f1;f1;f1;f1;", 29, 3);
        wrongly(head + "f1;f1;f1;f1;f1;f1;f9;", 29, 3);
        wrongly(head + "f1;f1;f1;f1;f1;f1;s", 29, 1);
        wrongly("h5,1,4,1,0;s1;s1;s1;s1;s1;s1;", 26, 3);
        wrongly(head + (char) 200, 11, 1);
    }

    private static void wrongly(String text, int place, int fault) {
        GreatChunks x = new GreatChunks();
        c.due(text, Checks.house(x, text), -1000100 - place);
        c.due("fault() of " + text, x.fault(), fault);
        c.due("count(0) of " + text, x.count(0), 0);
        c.due("count(6) of " + text, x.count(6), 0);
    }

    private static void whatStays() {
        c.about("promises 3 and 4, a fault leaves the house");
        GreatChunks x = Checks.with("h3,2,5,9,4;s2;f1;f4;");
        x.down(1);
        c.due("tick(2)", x.tick(2), 0);
        c.due("a fault", Checks.house(x, "h3,2,5,9,4;s2;f1;f9;"), -1000118);
        c.due("fault()", x.fault(), 2);
        c.due("count(0)", x.count(0), 3);
        c.due("count(1)", x.count(1), 2);
        c.due("count(2)", x.count(2), 2);
        c.due("count(5)", x.count(5), 2);
        c.due("sums(0)", x.sums(0), 2);
        c.due("server(0, 1)", x.server(0, 1), 2);
        c.due("a sound tape", Checks.house(x, "h2,1,4,1,0;"), 0);
        c.due("fault() is the latest yet", x.fault(), 2);
        Checks.house(x, "h7");
        Checks.house(x, "q");
        c.due("fault() of the later", x.fault(), 1);
        Checks.house(x, "h2,1,4,1,0;s1;s1;s1;");
        c.due("fault() of the last", x.fault(), 3);
    }

    private static void whatComesAnew() {
        c.about("promise 3, a house in place of another");
        GreatChunks x = Checks.with("h3,2,5,9,4;s2;f1;f4;");
        Checks.append(x, 0, "abc");
        x.spoil(1, 5);
        x.down(2);
        x.tick(7);
        x.image(1);
        c.due("house()", Checks.house(x, "h4,1,6,3,0;s3;s4;f5;"), 1);
        c.due("sums(0)", x.sums(0), 0);
        c.due("sums(1)", x.sums(1), 0);
        c.due("sums(3)", x.sums(3), 0);
        c.due("count(1)", x.count(1), 4);
        c.due("count(5)", x.count(5), 0);
        c.due("undo()", x.undo(), Checks.STATE);
        c.due("server(0, 1)", x.server(0, 1), 3);
        c.due("server(1, 1)", x.server(1, 1), 4);
        c.due("server(2, 1), not told", x.server(2, 1), 1);
        c.due("server(1, 5)", x.server(1, 5), 0);
        c.due("file(0, 1)", x.file(0, 1), 5);
        c.due("file(0, 2)", x.file(0, 2), 0);
        c.due("file(1, 0)", x.file(1, 0), 0);
        c.due("chunk(0, 0)", x.chunk(0, 0), Checks.BAD);
        c.due("restore(1)", x.restore(1), 1);
        c.due("sums(0) of the image", x.sums(0), 7);
        c.due("count(0) of the image", x.count(0), 3);
    }

    /** A house that is read behind much else is like one that is read first, in all that comes of it. */
    private static void nothingOfTheOld() {
        c.about("promise 3, nothing of the old house");
        GreatChunks x = Checks.with("h5,3,9,20,9;s4;s4;s4;s4;s4;f1;f1;f1;f1;f1;f1;");
        for (int f = 0; f < 6; f++) {
            Checks.append(x, f, "zzzzzzzzz");
            Checks.append(x, f, "yyyyyyyyy");
        }
        x.spoil(0, 9);
        x.spoil(1, 9);
        x.down(4);
        x.tick(19);
        x.remove(3);
        x.drawn(12, 77, 0);
        x.mends();
        String text = "h4,2,6,5,2;s2;f1;";
        GreatChunks fresh = Checks.with(text);
        c.due("house()", Checks.house(x, text), 1);
        for (int turn = 0; turn < 4; turn++) {
            sameToLookAt(x, fresh);
            x.create(turn, 1);
            fresh.create(turn, 1);
            c.due("left(" + turn + ")", x.left(turn), fresh.left(turn));
            c.due("append to " + turn, Checks.append(x, turn, "ab"), Checks.append(fresh, turn, "ab"));
        }
        sameToLookAt(x, fresh);
    }

    private static void sameToLookAt(GreatChunks x, GreatChunks fresh) {
        for (int what = 0; what < 7; what++) {
            c.due("sums(" + what + ")", x.sums(what), fresh.sums(what));
            for (int s = 0; s < 4; s++) {
                c.due("server(" + s + ", " + what + ")", x.server(s, what), fresh.server(s, what));
                c.due("chunk(" + s + ", " + what + ")", x.chunk(s, what), fresh.chunk(s, what));
            }
        }
        for (int f = 0; f < 6; f++) {
            for (int what = 0; what < 14; what++) {
                c.due("file(" + f + ", " + what + ")", x.file(f, what), fresh.file(f, what));
            }
        }
    }
}
