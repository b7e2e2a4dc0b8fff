import java.util.Arrays;

/** A keeper of files in chunks, whose copies lie on servers. What each call does is told in DOC.md. */
public final class GreatChunks {
    public static final int NONE = -1000000, BAD = -1000001, STATE = -1000002, FULL = -1000003, LOST = -1000004, FAILED = -1000005, STALE = -1000006, DOWN = -1000007;

    private static final int MOST_BYTES = 80;
    private static final int MOST_SERVERS = 5;
    private static final int MOST_ROOM = 9;
    private static final int MOST_CELLS = 9;
    private static final int MOST_CHUNKS = 30;
    private static final int MOST_FILES = 6;
    private static final int MOST_IN_FILE = 4;
    private static final int MOST_SPOILT = 9;
    private static final int MOST_TRIES = 3;
    private static final int MOST_ACTS = 6;
    private static final int MOST_TICKS = 50;
    private static final int MOST_YEARS = 12;
    private static final int MOST_SEED = 999999;
    private static final int MANY_IMAGES = 2;
    private static final int FIRST_FAULT_ANSWER = -1000100;
    private static final int NOBODY = -1;
    private static final int DONE = 0;
    private static final int PAD = 0;
    private static final int EMPTY = NONE;

    private final Reader reader = new Reader();
    private final Tape tape = reader.tape;
    private final Acts acts = new Acts();
    private final House house = new House();
    /** What is only tried or foretold happens here, so that the house itself stays as it is. */
    private final House trial = new House();
    /** Null where none was kept. */
    private final House[] images = new House[MANY_IMAGES];
    private boolean standing = false;
    private int latestFault = 0;

    /** Without a house: its fields say so. */
    public GreatChunks() {
    }

    // ---- what is told

    public int feed(int letter) {
        if (!within(letter, 0, 255)) {
            return BAD;
        }
        return tape.take(letter) ? tape.many : FULL;
    }

    public int house() {
        boolean whole = reader.readInto(trial);
        tape.many = 0;
        if (!whole) {
            latestFault = reader.fault;
            return FIRST_FAULT_ANSWER - reader.place;
        }
        house.become(trial);
        standing = true;
        acts.forget();
        return house.files.manyOf(Files.THERE);
    }

    public int fault() {
        return latestFault;
    }

    public int undo() {
        return acts.takeBack(house) ? acts.kept : STATE;
    }

    // ---- what is done

    public int create(int file, int kind) {
        if (!standing) {
            return STATE;
        }
        if (!isFile(file) || !isKindOfFiles(kind)) {
            return BAD;
        }
        if (!house.files.is(file, Files.NO_FILE)) {
            return STATE;
        }
        acts.keep(house);
        house.files.begin(file, kind);
        return house.files.manyOf(Files.THERE);
    }

    public int append(int file) {
        int letters = takeRecord();
        int refused = refusalOfRecord(file, letters);
        if (refused != DONE) {
            return refused;
        }
        acts.keep(house);
        return house.addRecord(file, tape.bytes, letters);
    }

    public int put(int file, int i, int letter) {
        if (!standing) {
            return STATE;
        }
        if (!isFile(file)) {
            return BAD;
        }
        if (!house.files.is(file, Files.THERE) || Kinds.isOne(house.files.kind[file], Kinds.LOG)) {
            return STATE;
        }
        if (!house.hasCell(file, i) || !isLetter(letter)) {
            return BAD;
        }
        acts.keep(house);
        return house.tellCell(file, i, letter);
    }

    public int both(int file, int to) {
        if (!standing) {
            return STATE;
        }
        if (!isFile(file) || !isFile(to)) {
            return BAD;
        }
        if (!house.files.is(file, Files.THERE) || !house.files.is(to, Files.NO_FILE)) {
            return STATE;
        }
        acts.keep(house);
        return house.shareFile(file, to);
    }

    public int remove(int file) {
        int refused = refusalOfFile(file);
        if (refused != DONE) {
            return refused;
        }
        acts.keep(house);
        return house.takeAway(file);
    }

    public int bring(int file) {
        if (!standing) {
            return STATE;
        }
        if (!isFile(file)) {
            return BAD;
        }
        if (!house.files.is(file, Files.HIDDEN)) {
            return STATE;
        }
        acts.keep(house);
        return house.files.showAgain(file);
    }

    public int tick(int n) {
        if (!standing) {
            return STATE;
        }
        if (!within(n, 1, MOST_TICKS)) {
            return BAD;
        }
        acts.keep(house);
        return house.comeOn(n);
    }

    public int down(int server) {
        return turn(server, true, false);
    }

    public int up(int server) {
        return turn(server, false, true);
    }

    public int spoil(int server, int n) {
        if (!house.servers.has(server) || !within(n, 0, MOST_SPOILT)) {
            return BAD;
        }
        acts.keep(house);
        int before = house.servers.spoilt[server];
        house.servers.spoilt[server] = n;
        return before;
    }

    public int beat(int server) {
        if (!house.servers.has(server)) {
            return BAD;
        }
        if (!house.servers.hasUp(server)) {
            return STATE;
        }
        acts.keep(house);
        return house.throwAway(server);
    }

    public int mend() {
        if (!standing) {
            return STATE;
        }
        int chunk = house.firstToMend();
        if (chunk == NOBODY) {
            return NONE;
        }
        acts.keep(house);
        house.addCopy(chunk);
        return chunk;
    }

    // ---- what there is

    public int server(int server, int what) {
        if (!house.servers.has(server)) {
            return BAD;
        }
        switch (what) {
            case 0: return house.servers.hasUp(server) ? 1 : 0;
            case 1: return house.servers.roomOf(server);
            case 2: return house.copies.manyAt(server);
            case 3: return house.staleAt(server);
            case 4: return house.forgottenAt(server);
            case 5: return house.servers.spoilt[server];
            case 6: return (int) (house.load(server) * 1000f);
            default: return BAD;
        }
    }

    public int chunk(int chunk, int what) {
        if (!house.chunks.has(chunk)) {
            return BAD;
        }
        switch (what) {
            case 0: return house.chunks.version[chunk];
            case 1: return house.chunks.shares[chunk];
            case 2: return house.leaseHolds(chunk) ? house.chunks.holder[chunk] : NONE;
            case 3: return house.leaseHolds(chunk) ? house.chunks.till[chunk] : NONE;
            case 4: return house.good(chunk);
            case 5: return house.stale(chunk);
            case 6: return house.able(chunk);
            default: return BAD;
        }
    }

    public int file(int file, int what) {
        if (!standing) {
            return STATE;
        }
        if (!isFile(file)) {
            return BAD;
        }
        if (within(what, 10, 9 + MOST_IN_FILE)) {
            int chunk = house.files.chunkOf(file, what - 10);
            return chunk == NOBODY ? NONE : chunk;
        }
        switch (what) {
            case 0: return house.files.how[file];
            case 1: return house.files.is(file, Files.NO_FILE) ? NONE : house.files.kind[file];
            case 2: return house.files.many[file];
            case 3: return house.files.is(file, Files.HIDDEN) ? house.files.since[file] : NONE;
            default: return BAD;
        }
    }

    public int part(int server, int chunk, int what) {
        if (!house.servers.has(server) || !house.chunks.has(chunk)) {
            return BAD;
        }
        boolean ofCell = within(what, 10, 9 + house.size);
        if (!ofCell && !within(what, 0, 1)) {
            return BAD;
        }
        if (!house.copies.lies(server, chunk)) {
            return NONE;
        }
        if (ofCell) {
            return house.copies.cell(server, chunk, what - 10);
        }
        return what == 0 ? house.copies.versionOf(server, chunk) : house.copies.filledOf(server, chunk);
    }

    public int read(int file, int i, int server) {
        if (!standing) {
            return STATE;
        }
        if (!isFile(file) || !house.servers.has(server)) {
            return BAD;
        }
        if (!house.files.is(file, Files.THERE)) {
            return STATE;
        }
        if (!house.hasCell(file, i)) {
            return BAD;
        }
        return house.readCell(file, i, server);
    }

    public int find(int file) {
        int letters = takeRecord();
        int refused = refusalOfRecord(file, letters);
        return refused != DONE ? refused : house.placesOf(file, tape.bytes, letters);
    }

    public int sums(int what) {
        if (!standing) {
            return STATE;
        }
        switch (what) {
            case 0: return house.now;
            case 1: return house.chunks.made;
            case 2: return house.chunks.manyForgotten();
            case 3: return house.allCopies();
            case 4: return house.allStale();
            case 5: return house.goodCells(true);
            case 6: return house.goodCells(false);
            default: return BAD;
        }
    }

    public int as(int file, int kind) {
        if (!standing) {
            return STATE;
        }
        if (!isFile(file) || !Kinds.has(kind)) {
            return BAD;
        }
        if (house.files.is(file, Files.NO_FILE)) {
            return STATE;
        }
        return Kinds.isOne(house.files.kind[file], kind) ? file : NONE;
    }

    // ---- foretold

    public int target(int kind) {
        if (!standing) {
            return STATE;
        }
        return isKindOfFiles(kind) ? house.placesForNew(kind) : BAD;
    }

    public int left(int file) {
        int refused = refusalOfFile(file);
        return refused != DONE ? refused : house.lettersLeft(file);
    }

    public int strength(int file) {
        int refused = refusalOfFile(file);
        return refused != DONE ? refused : Foretold.strengthOf(house, file);
    }

    public int mends() {
        if (!standing) {
            return STATE;
        }
        trial.become(house);
        return Foretold.mendAll(trial);
    }

    public long odds(int file, int p, int what) {
        if (!standing) {
            return STATE;
        }
        if (!isFile(file) || !within(p, 0, 10) || !within(what, 0, 1)) {
            return BAD;
        }
        if (!house.files.is(file, Files.THERE)) {
            return STATE;
        }
        long above = Foretold.readableCases(house, file, p);
        long below = Foretold.allCases(house);
        long shared = Foretold.commonDivisor(above, below);
        long told = what == 0 ? above : below;
        return shared == 0 ? told : told / shared;
    }

    public int drawn(int n, int seed, int what) {
        if (!standing) {
            return STATE;
        }
        if (!within(n, 0, MOST_YEARS) || !within(seed, 1, MOST_SEED) || !within(what, 0, 2)) {
            return BAD;
        }
        trial.become(house);
        int placed = Foretold.liveYears(trial, n, seed);
        switch (what) {
            case 0: return placed;
            case 1: return trial.chunks.made;
            default: return trial.allCopies();
        }
    }

    public int image(int k) {
        if (!isImage(k)) {
            return BAD;
        }
        if (!standing) {
            return STATE;
        }
        if (images[k] == null) {
            images[k] = new House();
        }
        images[k].become(house);
        return 1;
    }

    public int restore(int k) {
        if (!isImage(k)) {
            return BAD;
        }
        if (images[k] == null) {
            return STATE;
        }
        house.become(images[k]);
        acts.forget();
        return 1;
    }

    public int count(int what) {
        switch (what) {
            case 0: return house.servers.many;
            case 1: return house.servers.manyUp();
            case 2: return house.files.manyOf(Files.THERE);
            case 3: return house.files.manyOf(Files.HIDDEN);
            case 4: return house.chunks.made;
            case 5: return acts.kept;
            case 6: return tape.many;
            default: return BAD;
        }
    }

    // ---- what several calls need

    /** The tape is emptied: how many letters it had, 0 if not letters alone. Its bytes can be read till the next feed. */
    private int takeRecord() {
        int letters = tape.isOfLetters() ? tape.many : 0;
        tape.many = 0;
        return letters;
    }

    private int refusalOfRecord(int file, int letters) {
        boolean isRecord = within(letters, 1, house.size);
        return standing && !isRecord ? BAD : refusalOfFile(file);
    }

    private int refusalOfFile(int file) {
        if (!standing) {
            return STATE;
        }
        if (!isFile(file)) {
            return BAD;
        }
        return house.files.is(file, Files.THERE) ? DONE : STATE;
    }

    private int turn(int server, boolean from, boolean to) {
        if (!house.servers.has(server)) {
            return BAD;
        }
        if (house.servers.hasUp(server) != from) {
            return STATE;
        }
        acts.keep(house);
        house.servers.turn(server, to);
        return house.servers.manyUp();
    }

    private static boolean isFile(int file) {
        return within(file, 0, MOST_FILES - 1);
    }

    private static boolean isImage(int k) {
        return within(k, 0, MANY_IMAGES - 1);
    }

    private static boolean isKindOfFiles(int kind) {
        return Kinds.has(kind) && kind != Kinds.FILE;
    }

    private static boolean isLetter(int letter) {
        return within(letter, 'a', 'z');
    }

    private static boolean within(int number, int least, int most) {
        return number >= least && number <= most;
    }

    private static boolean isIn(int bits, int server) {
        return (bits >> server & 1) != 0;
    }

    /** The kinds of files, each with the kind that it is one of. */
    private static final class Kinds {
        static final int FILE = 0;
        static final int LOG = 2;
        static final int WIDE = 3;
        static final int BRIEF = 4;
        static final int SINGLE = 5;
        private static final int[] ABOVE = {-1, 0, 1, 1, 0, 4};

        static boolean has(int kind) {
            return kind >= 0 && kind < ABOVE.length;
        }

        static boolean isOne(int kind, int of) {
            int at = kind;
            for (int step = 0; step < ABOVE.length && has(at); step++) {
                if (at == of) {
                    return true;
                }
                at = ABOVE[at];
            }
            return false;
        }
    }

    /** The bytes that were fed and not yet read. */
    private static final class Tape {
        final int[] bytes = new int[MOST_BYTES];
        int many = 0;

        boolean take(int letter) {
            if (many >= MOST_BYTES) {
                return false;
            }
            bytes[many] = letter;
            many++;
            return true;
        }

        /** The byte at a place; NOBODY beyond the end, so that it fits no token. */
        int at(int place) {
            return place >= 0 && place < many ? bytes[place] : NOBODY;
        }

        boolean isOfLetters() {
            for (int i = 0; i < many; i++) {
                if (!isLetter(bytes[i])) {
                    return false;
                }
            }
            return true;
        }
    }

    /** Reads a house from the tape; at the first fault it stops, with the fault's number and place. */
    private static final class Reader {
        final Tape tape = new Tape();
        int place = 0;
        int fault = 0;
        private int number = 0;

        boolean readInto(House house) {
            place = 0;
            fault = 0;
            return readHead(house) && readServers(house) && readFiles(house)
                && (place == tape.many || refuse(1));
        }

        private boolean readHead(House house) {
            if (!sign('h') || !numeral(2, MOST_SERVERS)) {
                return false;
            }
            house.open(number);
            if (!sign(',') || !numeral(1, 3)) {
                return false;
            }
            house.wanted = number;
            if (!sign(',') || !numeral(4, MOST_CELLS)) {
                return false;
            }
            house.size = number;
            if (!sign(',') || !numeral(1, 20)) {
                return false;
            }
            house.lease = number;
            if (!sign(',') || !numeral(0, 20)) {
                return false;
            }
            house.grace = number;
            return sign(';');
        }

        private boolean readServers(House house) {
            for (int server = 0; server <= MOST_SERVERS && tape.at(place) == 's'; server++) {
                if (!house.servers.has(server)) {
                    return refuse(3);
                }
                if (!sign('s') || !numeral(1, MOST_ROOM) || !sign(';')) {
                    return false;
                }
                house.servers.room[server] = number;
            }
            return true;
        }

        private boolean readFiles(House house) {
            for (int file = 0; file <= MOST_FILES && tape.at(place) == 'f'; file++) {
                if (!isFile(file)) {
                    return refuse(3);
                }
                if (!sign('f') || !numeral(1, 5) || !sign(';')) {
                    return false;
                }
                house.files.begin(file, number);
            }
            return true;
        }

        private boolean sign(int wanted) {
            if (tape.at(place) != wanted) {
                return refuse(1);
            }
            place++;
            return true;
        }

        private boolean numeral(int least, int most) {
            int figures = 0;
            int value = 0;
            while (figures < 3 && within(tape.at(place + figures), '0', '9')) {
                value = value * 10 + tape.at(place + figures) - '0';
                figures++;
            }
            if (figures < 1 || figures > 2) {
                return refuse(1);
            }
            if (!within(value, least, most)) {
                return refuse(2);
            }
            number = value;
            place += figures;
            return true;
        }

        private boolean refuse(int which) {
            fault = which;
            return false;
        }
    }

    /** The house as it was ahead of the latest acts, in a ring whose places are made once and used again. */
    private static final class Acts {
        private final House[] before = new House[MOST_ACTS];
        private int next = 0;
        int kept = 0;

        void forget() {
            kept = 0;
        }

        void keep(House house) {
            if (before[next] == null) {
                before[next] = new House();
            }
            before[next].become(house);
            next = next + 1 < MOST_ACTS ? next + 1 : 0;
            kept = Math.min(kept + 1, MOST_ACTS);
        }

        boolean takeBack(House house) {
            int latest = next > 0 ? next - 1 : MOST_ACTS - 1;
            if (kept == 0 || before[latest] == null) {
                return false;
            }
            next = latest;
            kept--;
            house.become(before[latest]);
            return true;
        }
    }

    private static final class Servers {
        int many = 0;
        int upBits = 0;
        final int[] room = new int[MOST_SERVERS];
        final int[] spoilt = new int[MOST_SERVERS];

        void open(int howMany) {
            many = Math.min(howMany, MOST_SERVERS);
            upBits = (1 << many) - 1;
            Arrays.fill(room, 1);
            Arrays.fill(spoilt, 0);
        }

        void become(Servers other) {
            many = other.many;
            upBits = other.upBits;
            System.arraycopy(other.room, 0, room, 0, MOST_SERVERS);
            System.arraycopy(other.spoilt, 0, spoilt, 0, MOST_SERVERS);
        }

        boolean has(int server) {
            return server >= 0 && server < many;
        }

        boolean hasUp(int server) {
            return has(server) && isIn(upBits, server);
        }

        void turn(int server, boolean toUp) {
            if (has(server)) {
                int bit = 1 << server;
                upBits = toUp ? upBits | bit : upBits & ~bit;
            }
        }

        int roomOf(int server) {
            return server >= 0 && server < many ? room[server] : 1;
        }

        int manyUp() {
            return Integer.bitCount(upBits);
        }

        /** Whether a server that is to write now fails; each failure uses up one. */
        boolean failsNow(int server) {
            if (!has(server) || spoilt[server] < 1) {
                return false;
            }
            spoilt[server]--;
            return true;
        }

        void spoilMore(int server) {
            if (has(server)) {
                spoilt[server] = Math.min(spoilt[server] + 1, MOST_SPOILT);
            }
        }
    }

    private static final class Chunks {
        int made = 0;
        final int[] version = new int[MOST_CHUNKS];
        final int[] shares = new int[MOST_CHUNKS];
        final int[] holder = new int[MOST_CHUNKS];
        final int[] till = new int[MOST_CHUNKS];

        void become(Chunks other) {
            made = other.made;
            System.arraycopy(other.version, 0, version, 0, MOST_CHUNKS);
            System.arraycopy(other.shares, 0, shares, 0, MOST_CHUNKS);
            System.arraycopy(other.holder, 0, holder, 0, MOST_CHUNKS);
            System.arraycopy(other.till, 0, till, 0, MOST_CHUNKS);
        }

        boolean has(int chunk) {
            return chunk >= 0 && chunk < made;
        }

        boolean isFullUp() {
            return made >= MOST_CHUNKS;
        }

        /** One chunk more, of one file: its number; NOBODY if there is no room. */
        int make() {
            if (isFullUp()) {
                return NOBODY;
            }
            int chunk = made;
            made++;
            version[chunk] = 1;
            shares[chunk] = 1;
            endLease(chunk);
            return chunk;
        }

        void share(int chunk, int more) {
            if (has(chunk)) {
                shares[chunk] += more;
            }
        }

        boolean isShared(int chunk) {
            return has(chunk) && shares[chunk] > 1;
        }

        boolean isForgotten(int chunk) {
            return has(chunk) && shares[chunk] == 0;
        }

        void endLease(int chunk) {
            if (has(chunk)) {
                holder[chunk] = NOBODY;
                till[chunk] = 0;
            }
        }

        int manyForgotten() {
            int many = 0;
            for (int c = 0; c < made; c++) {
                many += shares[c] == 0 ? 1 : 0;
            }
            return many;
        }
    }

    /** The copies, by server and chunk; what is outside is no copy and takes nothing. */
    private static final class Copies {
        private static final int NO_COPY = -1;
        private final int[] version = new int[MOST_CHUNKS * MOST_SERVERS];
        private final int[] filled = new int[MOST_CHUNKS * MOST_SERVERS];
        private final int[] cells = new int[MOST_CHUNKS * MOST_SERVERS * MOST_CELLS];

        Copies() {
            Arrays.fill(version, NO_COPY);
        }

        void clear() {
            Arrays.fill(version, NO_COPY);
        }

        void become(Copies other) {
            System.arraycopy(other.version, 0, version, 0, version.length);
            System.arraycopy(other.filled, 0, filled, 0, filled.length);
            System.arraycopy(other.cells, 0, cells, 0, cells.length);
        }

        /** Where a copy's version and filled stand; NOBODY for what cannot be. */
        private static int placeOf(int server, int chunk) {
            boolean canBe = server >= 0 && server < MOST_SERVERS && chunk >= 0 && chunk < MOST_CHUNKS;
            return canBe ? chunk * MOST_SERVERS + server : NOBODY;
        }

        boolean lies(int server, int chunk) {
            return versionOf(server, chunk) != NO_COPY;
        }

        int versionOf(int server, int chunk) {
            int place = placeOf(server, chunk);
            return place == NOBODY ? NO_COPY : version[place];
        }

        int filledOf(int server, int chunk) {
            int place = placeOf(server, chunk);
            return place == NOBODY ? 0 : filled[place];
        }

        int cell(int server, int chunk, int i) {
            int place = placeOf(server, chunk);
            boolean isOne = place != NOBODY && i >= 0 && i < MOST_CELLS;
            return isOne ? cells[place * MOST_CELLS + i] : EMPTY;
        }

        void setVersion(int server, int chunk, int to) {
            int place = placeOf(server, chunk);
            if (place != NOBODY) {
                version[place] = to;
            }
        }

        void setFilled(int server, int chunk, int to) {
            int place = placeOf(server, chunk);
            if (place != NOBODY) {
                filled[place] = to;
            }
        }

        void setCell(int server, int chunk, int i, int to) {
            int place = placeOf(server, chunk);
            if (place != NOBODY && i >= 0 && i < MOST_CELLS) {
                cells[place * MOST_CELLS + i] = to;
            }
        }

        void lay(int server, int chunk) {
            for (int i = 0; i < MOST_CELLS; i++) {
                setCell(server, chunk, i, EMPTY);
            }
            setFilled(server, chunk, 0);
            setVersion(server, chunk, 1);
        }

        /** Lays a copy whose cells are like those of another, of the version told. */
        void layLike(int server, int chunk, int likeServer, int likeChunk, int itsVersion) {
            for (int i = 0; i < MOST_CELLS; i++) {
                setCell(server, chunk, i, cell(likeServer, likeChunk, i));
            }
            setFilled(server, chunk, filledOf(likeServer, likeChunk));
            setVersion(server, chunk, itsVersion);
        }

        void drop(int server, int chunk) {
            setVersion(server, chunk, NO_COPY);
        }

        void write(int server, int chunk, int from, int[] letters, int many) {
            for (int i = 0; i < many && i < letters.length; i++) {
                setCell(server, chunk, from + i, letters[i]);
            }
            setFilled(server, chunk, from + many);
        }

        void pad(int server, int chunk, int from, int size) {
            for (int i = from; i < size; i++) {
                if (cell(server, chunk, i) == EMPTY) {
                    setCell(server, chunk, i, PAD);
                }
            }
            setFilled(server, chunk, size);
        }

        int manyAt(int server) {
            if (server < 0 || server >= MOST_SERVERS) {
                return 0;
            }
            int many = 0;
            for (int c = 0; c < MOST_CHUNKS; c++) {
                many += version[c * MOST_SERVERS + server] != NO_COPY ? 1 : 0;
            }
            return many;
        }

        int lettersIn(int server, int chunk) {
            int many = 0;
            for (int i = 0; i < MOST_CELLS; i++) {
                many += isLetter(cell(server, chunk, i)) ? 1 : 0;
            }
            return many;
        }

        int padsIn(int server, int chunk) {
            int many = 0;
            for (int i = 0; i < MOST_CELLS; i++) {
                many += cell(server, chunk, i) == PAD ? 1 : 0;
            }
            return many;
        }

        boolean holdsAt(int server, int chunk, int from, int[] letters, int many) {
            for (int i = 0; i < many && i < letters.length; i++) {
                if (cell(server, chunk, from + i) != letters[i]) {
                    return false;
                }
            }
            return true;
        }
    }

    private static final class Files {
        static final int NO_FILE = 0;
        static final int THERE = 1;
        static final int HIDDEN = 2;
        final int[] how = new int[MOST_FILES];
        final int[] kind = new int[MOST_FILES];
        final int[] since = new int[MOST_FILES];
        final int[] many = new int[MOST_FILES];
        private final int[] chunk = new int[MOST_FILES * MOST_IN_FILE];

        void clear() {
            for (int f = 0; f < MOST_FILES; f++) {
                how[f] = NO_FILE;
                many[f] = 0;
            }
        }

        void become(Files other) {
            System.arraycopy(other.how, 0, how, 0, MOST_FILES);
            System.arraycopy(other.kind, 0, kind, 0, MOST_FILES);
            System.arraycopy(other.since, 0, since, 0, MOST_FILES);
            System.arraycopy(other.many, 0, many, 0, MOST_FILES);
            System.arraycopy(other.chunk, 0, chunk, 0, chunk.length);
        }

        boolean is(int file, int what) {
            return isFile(file) && how[file] == what;
        }

        int manyOf(int what) {
            int count = 0;
            for (int f = 0; f < MOST_FILES; f++) {
                count += how[f] == what ? 1 : 0;
            }
            return count;
        }

        void begin(int file, int itsKind) {
            if (isFile(file)) {
                how[file] = THERE;
                kind[file] = itsKind;
                many[file] = 0;
            }
        }

        void hide(int file, int now) {
            if (isFile(file)) {
                how[file] = HIDDEN;
                since[file] = now;
            }
        }

        int showAgain(int file) {
            if (!isFile(file)) {
                return NONE;
            }
            how[file] = THERE;
            return since[file];
        }

        void end(int file) {
            if (isFile(file)) {
                how[file] = NO_FILE;
                many[file] = 0;
            }
        }

        /** Chunk k of a file; NOBODY if it has not so many. */
        int chunkOf(int file, int k) {
            boolean isOne = isFile(file) && within(k, 0, MOST_IN_FILE - 1) && k < many[file];
            return isOne ? chunk[file * MOST_IN_FILE + k] : NOBODY;
        }

        int lastChunk(int file) {
            return isFile(file) ? chunkOf(file, many[file] - 1) : NOBODY;
        }

        boolean isFullUp(int file) {
            return !isFile(file) || many[file] >= MOST_IN_FILE;
        }

        void addChunk(int file, int itsChunk) {
            if (!isFullUp(file)) {
                chunk[file * MOST_IN_FILE + many[file]] = itsChunk;
                many[file]++;
            }
        }

        void replaceChunk(int file, int k, int by) {
            if (chunkOf(file, k) != NOBODY) {
                chunk[file * MOST_IN_FILE + k] = by;
            }
        }

        boolean owns(int file, int itsChunk) {
            for (int k = 0; k < MOST_IN_FILE; k++) {
                if (itsChunk != NOBODY && chunkOf(file, k) == itsChunk) {
                    return true;
                }
            }
            return false;
        }
    }

    /** A house and all that lies there, with what can be done to it. */
    private static final class House {
        int wanted = 0;
        int size = 0;
        int lease = 0;
        int grace = 0;
        int now = 0;
        final Servers servers = new Servers();
        final Chunks chunks = new Chunks();
        final Copies copies = new Copies();
        final Files files = new Files();

        /** Empty, with so many servers; the other numbers are for the caller to tell. */
        void open(int manyServers) {
            now = 0;
            servers.open(manyServers);
            chunks.made = 0;
            copies.clear();
            files.clear();
        }

        void become(House other) {
            wanted = other.wanted;
            size = other.size;
            lease = other.lease;
            grace = other.grace;
            now = other.now;
            servers.become(other.servers);
            chunks.become(other.chunks);
            copies.become(other.copies);
            files.become(other.files);
        }

        // -- which servers

        private boolean isGood(int server, int chunk) {
            return chunks.has(chunk) && copies.versionOf(server, chunk) == chunks.version[chunk];
        }

        private boolean isStale(int server, int chunk) {
            return copies.lies(server, chunk) && !isGood(server, chunk);
        }

        int good(int chunk) {
            if (!chunks.has(chunk)) {
                return 0;
            }
            int latest = chunks.version[chunk];
            int bits = 0;
            for (int s = 0; s < servers.many; s++) {
                bits |= copies.versionOf(s, chunk) == latest ? 1 << s : 0;
            }
            return bits;
        }

        int stale(int chunk) {
            int bits = 0;
            for (int s = 0; s < servers.many; s++) {
                bits |= isStale(s, chunk) ? 1 << s : 0;
            }
            return bits;
        }

        int able(int chunk) {
            return good(chunk) & servers.upBits;
        }

        float load(int server) {
            return (float) copies.manyAt(server) / (float) servers.roomOf(server);
        }

        /** Of some servers that of the least load, the least number first; NOBODY of none. */
        private int best(int bits) {
            int found = NOBODY;
            float least = 0f;
            for (int s = 0; s < servers.many; s++) {
                if (isIn(bits, s)) {
                    float itsLoad = load(s);
                    if (found == NOBODY || itsLoad < least) {
                        found = s;
                        least = itsLoad;
                    }
                }
            }
            return found;
        }

        private int first(int bits) {
            for (int s = 0; s < servers.many; s++) {
                if (isIn(bits, s)) {
                    return s;
                }
            }
            return NOBODY;
        }

        // -- how many copies, cells

        int staleAt(int server) {
            int many = 0;
            for (int c = 0; c < chunks.made; c++) {
                many += isStale(server, c) ? 1 : 0;
            }
            return many;
        }

        int forgottenAt(int server) {
            int many = 0;
            for (int c = 0; c < chunks.made; c++) {
                many += copies.lies(server, c) && chunks.isForgotten(c) ? 1 : 0;
            }
            return many;
        }

        int allCopies() {
            int many = 0;
            for (int s = 0; s < servers.many; s++) {
                many += copies.manyAt(s);
            }
            return many;
        }

        int allStale() {
            int many = 0;
            for (int s = 0; s < servers.many; s++) {
                many += staleAt(s);
            }
            return many;
        }

        /** Letters, or pads, in all good copies. */
        int goodCells(boolean ofLetters) {
            int many = 0;
            for (int c = 0; c < chunks.made; c++) {
                int bits = good(c);
                for (int s = 0; s < servers.many; s++) {
                    if (isIn(bits, s)) {
                        many += ofLetters ? copies.lettersIn(s, c) : copies.padsIn(s, c);
                    }
                }
            }
            return many;
        }

        private int greatestFilled(int chunk) {
            int bits = able(chunk);
            int most = 0;
            for (int s = 0; s < servers.many; s++) {
                if (isIn(bits, s)) {
                    most = Math.max(most, copies.filledOf(s, chunk));
                }
            }
            return most;
        }

        // -- what depends on kinds

        private int copiesWanted(int kind) {
            if (Kinds.isOne(kind, Kinds.SINGLE)) {
                return 1;
            }
            return Kinds.isOne(kind, Kinds.WIDE) ? wanted + 1 : wanted;
        }

        private int graceOf(int file) {
            return isFile(file) && Kinds.isOne(files.kind[file], Kinds.BRIEF) ? 0 : grace;
        }

        // -- cells of a file

        boolean hasCell(int file, int i) {
            return isFile(file) && i >= 0 && i < size * files.many[file];
        }

        private int rowOf(int i) {
            return size < 1 ? 0 : i / size;
        }

        private int cellOf(int i) {
            return size < 1 ? 0 : i % size;
        }

        int readCell(int file, int i, int server) {
            if (!servers.hasUp(server)) {
                return DOWN;
            }
            int chunk = files.chunkOf(file, rowOf(i));
            if (!copies.lies(server, chunk)) {
                return NONE;
            }
            return isGood(server, chunk) ? copies.cell(server, chunk, cellOf(i)) : STALE;
        }

        int placesOf(int file, int[] letters, int many) {
            int places = 0;
            for (int k = 0; k < MOST_IN_FILE; k++) {
                int chunk = files.chunkOf(file, k);
                if (chunk != NOBODY) {
                    int server = first(able(chunk));
                    if (server == NOBODY) {
                        return LOST;
                    }
                    places += placesIn(server, chunk, letters, many);
                }
            }
            return places;
        }

        private int placesIn(int server, int chunk, int[] letters, int many) {
            int places = 0;
            for (int from = 0; from + many <= size; from++) {
                places += copies.holdsAt(server, chunk, from, letters, many) ? 1 : 0;
            }
            return places;
        }

        int lettersLeft(int file) {
            int chunk = files.lastChunk(file);
            if (chunk == NOBODY || able(chunk) == 0) {
                return NONE;
            }
            return size - greatestFilled(chunk);
        }

        // -- chunks that come

        int placesForNew(int kind) {
            int rest = servers.upBits;
            int bits = 0;
            int often = copiesWanted(kind);
            for (int turn = 0; turn < often && rest != 0; turn++) {
                int server = best(rest);
                if (server != NOBODY) {
                    bits |= 1 << server;
                    rest &= ~(1 << server);
                }
            }
            return bits;
        }

        private int addNewChunk(int file) {
            if (chunks.isFullUp() || files.isFullUp(file)) {
                return FULL;
            }
            int bits = placesForNew(files.kind[file]);
            if (bits == 0) {
                return LOST;
            }
            int chunk = chunks.make();
            for (int s = 0; s < servers.many; s++) {
                if (isIn(bits, s)) {
                    copies.lay(s, chunk);
                }
            }
            files.addChunk(file, chunk);
            return DONE;
        }

        /** Chunk k of a file becomes its own, if other files have it too. */
        private int own(int file, int k) {
            int old = files.chunkOf(file, k);
            if (!chunks.isShared(old)) {
                return DONE;
            }
            if (chunks.isFullUp()) {
                return FULL;
            }
            int bits = able(old);
            if (bits == 0) {
                return LOST;
            }
            int chunk = chunks.make();
            for (int s = 0; s < servers.many; s++) {
                if (isIn(bits, s)) {
                    copies.layLike(s, chunk, s, old, 1);
                }
            }
            chunks.share(old, -1);
            files.replaceChunk(file, k, chunk);
            return DONE;
        }

        // -- leases

        boolean leaseHolds(int chunk) {
            if (!chunks.has(chunk)) {
                return false;
            }
            int holder = chunks.holder[chunk];
            return holder != NOBODY && now < chunks.till[chunk]
                && servers.hasUp(holder) && isGood(holder, chunk);
        }

        /** A new version and a new holder; false, with nothing changed, if no server is able. */
        private boolean giveLease(int chunk) {
            int bits = able(chunk);
            if (bits == 0 || !chunks.has(chunk)) {
                return false;
            }
            chunks.version[chunk]++;
            for (int s = 0; s < servers.many; s++) {
                if (isIn(bits, s)) {
                    copies.setVersion(s, chunk, chunks.version[chunk]);
                }
            }
            chunks.holder[chunk] = best(bits);
            chunks.till[chunk] = now + lease;
            return true;
        }

        // -- what is written

        int addRecord(int file, int[] letters, int many) {
            boolean isBare = files.lastChunk(file) == NOBODY;
            int refused = isBare ? addNewChunk(file) : own(file, files.many[file] - 1);
            int tries = 0;
            // Behind a padding the record fits, so there is one at most ahead of each try.
            for (int turn = 0; turn < 2 * MOST_TRIES && tries < MOST_TRIES && refused == DONE; turn++) {
                int chunk = files.lastChunk(file);
                if (!leaseHolds(chunk) && !giveLease(chunk)) {
                    return LOST;
                }
                int from = greatestFilled(chunk);
                if (from + many > size) {
                    padAll(chunk, from);
                    refused = addNewChunk(file);
                } else {
                    tries++;
                    if (tryToWrite(chunk, from, letters, many)) {
                        return size * (files.many[file] - 1) + from;
                    }
                }
            }
            return refused != DONE ? refused : FAILED;
        }

        private void padAll(int chunk, int from) {
            int bits = able(chunk);
            for (int s = 0; s < servers.many; s++) {
                if (isIn(bits, s)) {
                    copies.pad(s, chunk, from, size);
                }
            }
        }

        /** The holder first, then the others that are good: whether all wrote. */
        private boolean tryToWrite(int chunk, int from, int[] letters, int many) {
            if (!chunks.has(chunk)) {
                return false;
            }
            int holder = chunks.holder[chunk];
            if (servers.failsNow(holder)) {
                return false;
            }
            copies.write(holder, chunk, from, letters, many);
            int bits = good(chunk);
            boolean allWrote = true;
            for (int s = 0; s < servers.many; s++) {
                if (s != holder && isIn(bits, s)) {
                    if (!servers.hasUp(s)) {
                        chunks.endLease(chunk);
                        allWrote = false;
                    } else if (servers.failsNow(s)) {
                        allWrote = false;
                    } else {
                        copies.write(s, chunk, from, letters, many);
                    }
                }
            }
            return allWrote;
        }

        int tellCell(int file, int i, int letter) {
            int refused = own(file, rowOf(i));
            if (refused != DONE) {
                return refused;
            }
            int chunk = files.chunkOf(file, rowOf(i));
            if (!giveLease(chunk)) {
                return LOST;
            }
            int bits = able(chunk);
            int wrote = 0;
            for (int s = 0; s < servers.many; s++) {
                if (isIn(bits, s)) {
                    wrote += tellCellAt(s, chunk, cellOf(i), letter) ? 1 : 0;
                }
            }
            return wrote == 0 ? LOST : wrote;
        }

        private boolean tellCellAt(int server, int chunk, int cell, int letter) {
            if (servers.failsNow(server)) {
                copies.setVersion(server, chunk, 0);
                return false;
            }
            copies.setCell(server, chunk, cell, letter);
            copies.setFilled(server, chunk, Math.max(copies.filledOf(server, chunk), cell + 1));
            return true;
        }

        // -- whole files

        int shareFile(int file, int to) {
            if (!isFile(file) || !isFile(to)) {
                return 0;
            }
            files.begin(to, files.kind[file]);
            for (int k = 0; k < MOST_IN_FILE; k++) {
                int chunk = files.chunkOf(file, k);
                if (chunk != NOBODY) {
                    files.addChunk(to, chunk);
                    chunks.share(chunk, 1);
                    chunks.endLease(chunk);
                }
            }
            return files.many[to];
        }

        int takeAway(int file) {
            int till = now + graceOf(file);
            if (till == now) {
                loseFile(file);
            } else {
                files.hide(file, now);
            }
            return till;
        }

        private void loseFile(int file) {
            for (int k = 0; k < MOST_IN_FILE; k++) {
                chunks.share(files.chunkOf(file, k), -1);
            }
            files.end(file);
        }

        int comeOn(int n) {
            now += n;
            int gone = 0;
            for (int f = 0; f < MOST_FILES; f++) {
                if (files.is(f, Files.HIDDEN) && now - files.since[f] >= graceOf(f)) {
                    loseFile(f);
                    gone++;
                }
            }
            return gone;
        }

        // -- copies that go and come

        int throwAway(int server) {
            int many = 0;
            for (int c = 0; c < chunks.made; c++) {
                if (isStale(server, c) || copies.lies(server, c) && chunks.isForgotten(c)) {
                    copies.drop(server, c);
                    many++;
                }
            }
            return many;
        }

        int firstToMend() {
            for (int c = 0; c < chunks.made; c++) {
                if (lacksCopy(c)) {
                    return c;
                }
            }
            return NOBODY;
        }

        /** Whether a chunk has too few able servers, one to give and one to take a copy. */
        boolean lacksCopy(int chunk) {
            int bits = able(chunk);
            boolean hasGiver = bits != 0 && !chunks.isForgotten(chunk);
            boolean hasTaker = (servers.upBits & ~bits) != 0;
            return hasGiver && hasTaker && Integer.bitCount(bits) < mostWanted(chunk);
        }

        private int mostWanted(int chunk) {
            int most = 0;
            for (int f = 0; f < MOST_FILES; f++) {
                if (files.owns(f, chunk)) {
                    most = Math.max(most, copiesWanted(files.kind[f]));
                }
            }
            return most;
        }

        void addCopy(int chunk) {
            int bits = able(chunk);
            int giver = first(bits);
            int taker = best(servers.upBits & ~bits);
            if (giver != NOBODY && taker != NOBODY) {
                copies.layLike(taker, chunk, giver, chunk, copies.versionOf(giver, chunk));
            }
        }
    }

    /** What would come of a house. What changes it is called on a trial alone. */
    private static final class Foretold {
        private static final int ALL_CASES = 10;
        private static final int DRAW_FACTOR = 16807;
        private static final int DRAW_MODULUS = 2147483647;
        private static final int LETTERS = 26;

        static int strengthOf(House house, int file) {
            int fewest = NONE;
            for (int k = 0; k < MOST_IN_FILE; k++) {
                int chunk = house.files.chunkOf(file, k);
                if (chunk != NOBODY) {
                    int many = Integer.bitCount(house.able(chunk));
                    fewest = fewest == NONE ? many : Math.min(fewest, many);
                }
            }
            return fewest == NONE || fewest == 0 ? NONE : fewest - 1;
        }

        /** A copy that comes changes nothing for the chunks ahead of its own, so that none is looked at again. */
        static int mendAll(House trial) {
            int times = 0;
            for (int c = 0; c < trial.chunks.made; c++) {
                for (int turn = 0; turn < MOST_SERVERS && trial.lacksCopy(c); turn++) {
                    trial.addCopy(c);
                    times++;
                }
            }
            return times;
        }

        static long allCases(House house) {
            long cases = 1;
            for (int s = 0; s < house.servers.many; s++) {
                cases *= house.servers.hasUp(s) ? ALL_CASES : 1;
            }
            return cases;
        }

        static long readableCases(House house, int file, int p) {
            int upBits = house.servers.upBits;
            long cases = 0;
            for (int gone = 0; gone < 1 << MOST_SERVERS; gone++) {
                if ((gone & ~upBits) == 0 && isReadableWithout(house, file, gone)) {
                    cases += casesOf(house, gone, p);
                }
            }
            return cases;
        }

        private static boolean isReadableWithout(House house, int file, int gone) {
            for (int k = 0; k < MOST_IN_FILE; k++) {
                int chunk = house.files.chunkOf(file, k);
                if (chunk != NOBODY && (house.able(chunk) & ~gone) == 0) {
                    return false;
                }
            }
            return true;
        }

        private static long casesOf(House house, int gone, int p) {
            long cases = 1;
            for (int s = 0; s < house.servers.many; s++) {
                if (house.servers.hasUp(s)) {
                    cases *= isIn(gone, s) ? p : ALL_CASES - p;
                }
            }
            return cases;
        }

        static long commonDivisor(long a, long b) {
            long more = a;
            long less = b;
            for (int step = 0; step < 100 && less != 0; step++) {
                long rest = more % less;
                more = less;
                less = rest;
            }
            return more;
        }

        static int liveYears(House trial, int n, int seed) {
            if (trial.servers.many < 1 || trial.size < 1) {
                return 0;
            }
            int[] letters = new int[MOST_CELLS];
            long x = seed;
            int placed = 0;
            for (int year = 0; year < n; year++) {
                x = x * DRAW_FACTOR % DRAW_MODULUS;
                trial.servers.spoilMore((int) (x / 128 % trial.servers.many));
                int file = (int) (x % MOST_FILES);
                int many = 1 + (int) (x / 8 % trial.size);
                Arrays.fill(letters, 'a' + (int) (x / 64 % LETTERS));
                if (trial.files.is(file, Files.THERE) && trial.addRecord(file, letters, many) >= 0) {
                    placed++;
                }
            }
            return placed;
        }
    }
}
