/** Asks for answers, says each that is not as due, and ends the program with 1 if there was one. */
final class Checks {
    static final int NONE = GreatChunks.NONE;
    static final int BAD = GreatChunks.BAD;
    static final int STATE = GreatChunks.STATE;
    static final int FULL = GreatChunks.FULL;
    static final int LOST = GreatChunks.LOST;
    static final int FAILED = GreatChunks.FAILED;
    static final int STALE = GreatChunks.STALE;
    static final int DOWN = GreatChunks.DOWN;

    private final String test;
    private String part = "";
    private int asked = 0;
    private int wrong = 0;

    Checks(String test) {
        this.test = test;
    }

    /** What the answers that follow are about. */
    void about(String what) {
        part = what;
    }

    void due(String call, long got, long want) {
        asked++;
        if (got != want) {
            wrong++;
            if (wrong <= 50) {
                System.out.println(test + ", " + part + ": " + call + " answered " + got + ", due is " + want);
            }
        }
    }

    void end() {
        System.out.println(test + ": " + asked + " answers, " + wrong + " wrong");
        if (wrong != 0) {
            System.exit(1);
        }
    }

    static void feed(GreatChunks x, String text) {
        for (int i = 0; i < text.length(); i++) {
            x.feed(text.charAt(i));
        }
    }

    static int house(GreatChunks x, String text) {
        feed(x, text);
        return x.house();
    }

    /** A new object with a house that must be without fault. */
    static GreatChunks with(String text) {
        GreatChunks x = new GreatChunks();
        if (house(x, text) < 0) {
            throw new IllegalArgumentException(text);
        }
        return x;
    }

    static int append(GreatChunks x, int file, String record) {
        feed(x, record);
        return x.append(file);
    }

    static int find(GreatChunks x, int file, String record) {
        feed(x, record);
        return x.find(file);
    }

    /** The cells of a copy: letters, '_' a pad, '.' empty; "-" if there is no copy. */
    static String cells(GreatChunks x, int server, int chunk) {
        StringBuilder text = new StringBuilder();
        for (int i = 10; x.part(server, chunk, i) != BAD; i++) {
            int cell = x.part(server, chunk, i);
            text.append(cell == NONE ? '.' : cell == 0 ? '_' : (char) cell);
        }
        return x.part(server, chunk, 0) == NONE ? "-" : text.toString();
    }

    void dueCells(GreatChunks x, int server, int chunk, String want) {
        String got = cells(x, server, chunk);
        due("cells at " + server + " of chunk " + chunk + " are " + got + " for " + want, got.equals(want) ? 1 : 0, 1);
    }
}
