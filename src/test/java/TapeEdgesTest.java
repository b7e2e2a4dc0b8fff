/** The edges of promises 1 to 4 and of the terms' first part: the tape, its tokens, the house that is read, the faults. */
public final class TapeEdgesTest {
    private static final Checks c = new Checks("TapeEdgesTest");
    private static final String HEAD = "h2,1,4,1,0;";

    public static void main(String[] args) {
        eightyBytes();
        emptiedTape();
        longestHouse();
        firstBytes();
        cutOff();
        firstOfTwoFaults();
        leastOfOneToken();
        figures();
        tooMany();
        order();
        roomsNotTold();
        kindsAsTheyCome();
        latestFault();
        slips();
        c.end();
    }

    private static void eightyBytes() {
        c.about("THE TAPE has at most 80 bytes");
        GreatChunks x = new GreatChunks();
        for (int i = 1; i <= 80; i++) {
            c.due("feed(" + (i * 3 & 255) + ")", x.feed(i * 3 & 255), i);
            c.due("count(6)", x.count(6), i);
        }
        c.due("the 81st", x.feed(0), Checks.FULL);
        c.due("the 82nd", x.feed(255), Checks.FULL);
        c.due("count(6)", x.count(6), 80);
    }

    private static void emptiedTape() {
        c.about("the tape is empty behind house, append, find, and takes 80 bytes again");
        GreatChunks x = new GreatChunks();
        for (int turn = 0; turn < 4; turn++) {
            for (int i = 1; i <= 80; i++) {
                x.feed('a');
            }
            c.due("count(6)", x.count(6), 80);
            c.due("one more", x.feed('a'), Checks.FULL);
            int answer = turn == 0 ? x.house() : turn == 1 ? x.append(0) : turn == 2 ? x.find(0) : x.house();
            c.due("refused", answer < 0 ? 1 : 0, 1);
            c.due("count(6)", x.count(6), 0);
            c.due("feed", x.feed('b'), 1);
            x.house();
        }
        c.due("nothing of an old tape is read", Checks.house(x, "h2,1,4,1,0;"), 0);
        c.due("feed behind a sound one", x.feed('f'), 1);
    }

    private static void longestHouse() {
        c.about("the longest HOUSE that can be told");
        String text = "h05,03,09,20,20;s09;s09;s09;s09;s09;f05;f04;f03;f02;f01;f05;";
        GreatChunks x = new GreatChunks();
        c.due("its bytes", text.length(), 60);
        c.due("house()", Checks.house(x, text), 6);
        c.due("count(0)", x.count(0), 5);
        c.due("count(1), all are UP", x.count(1), 5);
        c.due("server(4, 1)", x.server(4, 1), 9);
        c.due("file(5, 1)", x.file(5, 1), 5);
        c.due("target(3), of 3 and 1", x.target(3), 15);
        c.due("append of SIZE letters", Checks.append(x, 2, "abcdefghi"), 0);
        c.due("till when", x.chunk(0, 3), 20);
        c.due("remove of a WIDE one", x.remove(2), 20);
        c.due("the shortest", Checks.house(x, "h2,1,4,1,0;"), 0);
        c.due("count(0)", x.count(0), 2);
        c.due("count(2)", x.count(2), 0);
        c.due("create", x.create(0, 1), 1);
        c.due("append of more than SIZE", Checks.append(x, 0, "abcde"), Checks.BAD);
        c.due("append of SIZE letters", Checks.append(x, 0, "abcd"), 0);
        c.due("till when", x.chunk(0, 3), 1);
        c.due("one copy", x.chunk(0, 4), 1);
        c.due("remove", x.remove(0), 0);
    }

    private static void firstBytes() {
        c.about("TOKENS: nothing else");
        for (int sign = 0; sign < 256; sign++) {
            GreatChunks x = new GreatChunks();
            x.feed(sign);
            c.due("first byte " + sign, x.house(), sign == 'h' ? -1000101 : -1000100);
            c.due("fault()", x.fault(), 1);
            x = new GreatChunks();
            Checks.feed(x, HEAD);
            x.feed(sign);
            c.due("byte " + sign + " behind the head", x.house(), sign == 's' || sign == 'f' ? -1000112 : -1000111);
            c.due("fault()", x.fault(), 1);
        }
    }

    private static void cutOff() {
        c.about("the end: how many bytes there are");
        String text = "h3,2,06,4,20;s3;s9;f1;f05;";
        for (int many = 0; many < text.length(); many++) {
            GreatChunks x = new GreatChunks();
            boolean isWhole = many == 13 || many == 16 || many == 19 || many == 22;
            // A number of two figures that is cut behind its first may be one that is not as told.
            boolean isOdd = text.charAt(Math.max(0, many - 1)) == '0' && many != 12;
            int want = isWhole ? (many == 22 ? 1 : 0) : isOdd ? -1000100 - (many - 1) : -1000100 - many;
            c.due(text.substring(0, many), Checks.house(x, text.substring(0, many)), want);
            c.due("fault() of " + many, x.fault(), isWhole ? 0 : isOdd ? 2 : 1);
        }
    }

    private static void wrongly(String text, int place, int fault) {
        GreatChunks x = new GreatChunks();
        c.due(text, Checks.house(x, text), -1000100 - place);
        c.due("fault() of " + text, x.fault(), fault);
    }

    private static void firstOfTwoFaults() {
        c.about("FAULTS, the first TOKEN that has one");
        wrongly("h6,0,3,0,21;", 1, 2);
        wrongly("h5,0,3,0,21;", 3, 2);
        wrongly("h5,3,3,0,21;", 5, 2);
        wrongly("h5,3,9,0,21;", 7, 2);
        wrongly("h5,3,9,20,21;", 10, 2);
        wrongly("h6;", 1, 2);
        wrongly("h66 66", 1, 2);
        wrongly("h5;66", 2, 1);
        wrongly(HEAD + "s1;s10;s1;", 15, 2);
        wrongly(HEAD + "s1;s1;s10;", 17, 3);
        wrongly(HEAD + "f6;?", 12, 2);
        wrongly(HEAD + "f5;?", 14, 1);
        wrongly(HEAD + "s0?", 12, 2);
    }

    private static void leastOfOneToken() {
        c.about("of one TOKEN the least");
        wrongly("h100,1,4,1,0;", 1, 1);
        wrongly(HEAD + "s000;", 12, 1);
        wrongly(HEAD + "s1;s1;f1;s1;", 20, 1);
        wrongly(HEAD + "f1;f1;f1;f1;f1;f1;s1;", 29, 1);
        wrongly(HEAD + "s1;s1;s", 17, 3);
        wrongly(HEAD + "f1;f1;f1;f1;f1;f1;f", 29, 3);
    }

    private static void figures() {
        c.about("NUMBERS: a run of three figures or more, at its first");
        wrongly("h333", 1, 1);
        wrongly("h" + "2".repeat(79), 1, 1);
        wrongly("h2,1,4,1,000;", 9, 1);
        wrongly(HEAD + "s111", 12, 1);
        wrongly(HEAD + "f111", 12, 1);
        wrongly(HEAD + "12", 11, 1);
        wrongly(HEAD + "123", 11, 1);
        wrongly(HEAD + "s12;", 12, 2);
        wrongly("12", 0, 1);
        wrongly("123", 0, 1);
        wrongly("h2,1,4,1/0;", 8, 1);
        wrongly("h:,1,4,1,0;", 1, 1);
        wrongly("h/,1,4,1,0;", 1, 1);
    }

    private static void tooMany() {
        c.about("3: a server, a file more than there are, than there is room for (its letter)");
        for (int servers = 2; servers <= 5; servers++) {
            String head = "h" + servers + ",1,4,1,0;";
            GreatChunks x = new GreatChunks();
            c.due("as many as there are", Checks.house(x, head + "s9;".repeat(servers)), 0);
            wrongly(head + "s9;".repeat(servers + 1), 11 + 3 * servers, 3);
            wrongly(head + "s9;".repeat(servers) + "s", 11 + 3 * servers, 3);
            wrongly(head + "s9;".repeat(servers) + "s0;", 11 + 3 * servers, 3);
        }
        GreatChunks x = new GreatChunks();
        c.due("six files", Checks.house(x, HEAD + "f5;".repeat(6)), 6);
        wrongly(HEAD + "f5;".repeat(7), 29, 3);
        wrongly(HEAD + "s1;s1;" + "f5;".repeat(7), 35, 3);
        wrongly(HEAD + "f5;".repeat(6) + "f0;", 29, 3);
    }

    private static void order() {
        c.about("house: { server } { file }");
        GreatChunks x = new GreatChunks();
        c.due("files without servers", Checks.house(x, HEAD + "f1;f2;"), 2);
        c.due("servers without files", Checks.house(x, HEAD + "s1;s2;"), 0);
        wrongly(HEAD + "f1;s1;", 14, 1);
        wrongly(HEAD + "s1;f1;s1;", 17, 1);
        wrongly(HEAD + HEAD, 11, 1);
        wrongly(HEAD + "s1;h", 14, 1);
        wrongly(HEAD + "s1;;", 14, 1);
        wrongly(HEAD + "s1,", 13, 1);
        wrongly(HEAD + "s1s1;", 13, 1);
        wrongly(HEAD + "f1f1;", 13, 1);
        wrongly("h2,1,4,1;", 8, 1);
        wrongly("h2,1,4,1,0,0;", 10, 1);
        wrongly("h,1,4,1,0;", 1, 1);
        wrongly("h2,,4,1,0;", 3, 1);
    }

    private static void roomsNotTold() {
        c.about("server: 1 of those that are not told");
        GreatChunks x = Checks.with("h5,1,4,1,0;s7;s8;s9;s6;s5;");
        for (int told = 0; told <= 5; told++) {
            Checks.house(x, "h5,1,4,1,0;" + "s7;".repeat(told));
            for (int s = 0; s < 5; s++) {
                c.due("server(" + s + ", 1) of " + told + " told", x.server(s, 1), s < told ? 7 : 1);
            }
        }
    }

    private static void kindsAsTheyCome() {
        c.about("file: FILES 0, 1, .. as they come; they are THERE, without CHUNKS");
        for (int files = 0; files <= 6; files++) {
            GreatChunks x = new GreatChunks();
            c.due("house()", Checks.house(x, HEAD + "f3;f1;f5;f2;f4;f1;".substring(0, 3 * files)), files);
            int[] kinds = {3, 1, 5, 2, 4, 1};
            for (int f = 0; f < 6; f++) {
                c.due("file(" + f + ", 0) of " + files, x.file(f, 0), f < files ? 1 : 0);
                c.due("file(" + f + ", 1) of " + files, x.file(f, 1), f < files ? kinds[f] : Checks.NONE);
                c.due("file(" + f + ", 2) of " + files, x.file(f, 2), 0);
                c.due("file(" + f + ", 10) of " + files, x.file(f, 10), Checks.NONE);
            }
        }
    }

    private static void latestFault() {
        c.about("fault(): the number of the latest FAULT; 0 before one");
        GreatChunks x = new GreatChunks();
        c.due("at first", x.fault(), 0);
        Checks.house(x, HEAD);
        c.due("behind a sound tape", x.fault(), 0);
        x.create(9, 9);
        Checks.append(x, 0, "?");
        x.feed(256);
        c.due("a refusal is none", x.fault(), 0);
        Checks.house(x, "h9");
        c.due("2", x.fault(), 2);
        Checks.house(x, HEAD);
        c.due("2 yet", x.fault(), 2);
        Checks.house(x, HEAD + "s1;s1;s1;");
        c.due("3", x.fault(), 3);
        x.image(0);
        Checks.house(x, "");
        c.due("1", x.fault(), 1);
        x.restore(0);
        x.tick(1);
        x.undo();
        c.due("1 yet", x.fault(), 1);
    }

    /** Each byte at each place of sound tapes, put there, put between, or left out, is held against Model. */
    private static void slips() {
        c.about("slips");
        String[] texts = {"h2,1,4,1,0;", "h3,2,06,14,20;s3;s10;f1;f05;", "h2,1,4,1,0;s1;s2;f1;f2;f3;f4;f5;f1;"};
        for (String text : texts) {
            for (int place = 0; place <= text.length(); place++) {
                String ahead = text.substring(0, place);
                String behind = text.substring(Math.min(place + 1, text.length()));
                likeModel(ahead + behind);
                for (int sign = 0; sign < 256; sign++) {
                    likeModel(ahead + (char) sign + behind);
                    likeModel(ahead + (char) sign + text.substring(place));
                }
            }
        }
    }

    private static void likeModel(String text) {
        GreatChunks x = new GreatChunks();
        Model model = new Model();
        for (int i = 0; i < text.length(); i++) {
            x.feed(text.charAt(i));
            model.feed(text.charAt(i));
        }
        c.due(text, x.house(), model.house());
        c.due("fault() of " + text, x.fault(), model.fault());
        c.due("count(0) of " + text, x.count(0), model.count(0));
    }
}
