/** Asks for answers, says each that is not as due, and ends the program with 1 if there was one. */
final class Checks {
    static final int NONE = GreatChunks.NONE;
    static final int BAD = GreatChunks.BAD;
    static final int STATE = GreatChunks.STATE;
    static final int FULL = GreatChunks.FULL;
    static final int LOST = GreatChunks.LOST;
    static final int FAILED = GreatChunks.FAILED;
    static final int STALE = GreatChunks.STALE;
    static final int DOWN = GreatChunks.DOWN;

    private final String test;
    private String part = "";
    private int asked = 0;
    private int wrong = 0;

    Checks(String test) {
        this.test = test;
    }

    /** What the answers that follow are about. */
    void about(String what) {
        part = what;
    }

    void due(String call, long got, long want) {
        asked++;
        if (got != want) {
            wrong++;
            if (wrong <= 50) {
                System.out.println(test + ", " + part + ": " + call + " answered " + got + ", due is " + want);
            }
        }
    }

    void end() {
        System.out.println(test + ": " + asked + " answers, " + wrong + " wrong");
        if (wrong != 0) {
            System.exit(1);
        }
    }

    static void feed(GreatChunks x, String text) {
        for (int i = 0; i < text.length(); i++) {
            x.feed(text.charAt(i));
        }
    }

    static int house(GreatChunks x, String text) {
        feed(x, text);
        return x.house();
    }

    /** A new object with a house that must be without fault. */
    static GreatChunks with(String text) {
        GreatChunks x = new GreatChunks();
        if (house(x, text) < 0) {
            throw new IllegalArgumentException(text);
        }
        return x;
    }

    static int append(GreatChunks x, int file, String record) {
        feed(x, record);
        return x.append(file);
    }

    static int find(GreatChunks x, int file, String record) {
        feed(x, record);
        return x.find(file);
    }

    /** The cells of a copy: letters, '_' a pad, '.' empty; "-" if there is no copy. */
    static String cells(GreatChunks x, int server, int chunk) {
        StringBuilder text = new StringBuilder();
        for (int i = 10; x.part(server, chunk, i) != BAD; i++) {
            int cell = x.part(server, chunk, i);
            text.append(cell == NONE ? '.' : cell == 0 ? '_' : (char) cell);
        }
        return x.part(server, chunk, 0) == NONE ? "-" : text.toString();
    }

    /** All that can be seen of an object without changing it, but for the tape and the fault. */
    static String look(GreatChunks x) {
        StringBuilder text = new StringBuilder();
        for (int what = 0; what < 7; what++) {
            text.append(what == 6 ? 0 : x.count(what)).append(' ').append(x.sums(what)).append(' ');
            text.append(what > 0 && what < 6 ? x.target(what) : 0).append('\n');
        }
        for (int s = 0; s < x.count(0); s++) {
            for (int what = 0; what < 7; what++) {
                text.append(x.server(s, what)).append(' ');
            }
        }
        for (int n = 0; n < x.count(4); n++) {
            text.append("\nchunk ").append(n).append(':');
            for (int what = 0; what < 7; what++) {
                text.append(' ').append(x.chunk(n, what));
            }
            for (int s = 0; s < x.count(0); s++) {
                text.append(' ').append(x.part(s, n, 0)).append('/').append(x.part(s, n, 1)).append(cells(x, s, n));
            }
        }
        for (int f = 0; f < 6; f++) {
            text.append("\nfile ").append(f).append(':');
            for (int what = 0; what < 14; what++) {
                text.append(' ').append(x.file(f, what));
            }
            text.append(' ').append(x.left(f)).append(' ').append(x.strength(f));
            text.append(' ').append(x.odds(f, 3, 0)).append(' ').append(x.odds(f, 3, 1));
        }
        return text.append("\nmends ").append(x.mends()).append(" drawn ").append(x.drawn(12, 4711, 2)).toString();
    }

    /** Whether two objects look alike now, and behind each undo till no act is left. */
    void dueAlike(String call, GreatChunks x, GreatChunks y) {
        due(call + ": looks alike", look(x).equals(look(y)) ? 1 : 0, 1);
        for (int turn = 0; turn < 7; turn++) {
            due(call + ": undo() alike", x.undo(), y.undo());
            due(call + ": looks alike behind undo", look(x).equals(look(y)) ? 1 : 0, 1);
        }
    }

    void dueCells(GreatChunks x, int server, int chunk, String want) {
        String got = cells(x, server, chunk);
        due("cells at " + server + " of chunk " + chunk + " are " + got + " for " + want, got.equals(want) ? 1 : 0, 1);
    }
}
