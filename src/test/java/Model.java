import java.util.ArrayDeque;
import java.util.ArrayList;
import java.util.Deque;
import java.util.List;
import java.util.TreeSet;

/**
 * The document told a second time, with objects and lists and without thrift, so that ModelTest can
 * hold the class against it. It shares no code with the class.
 */
final class Model {
    private static final int NONE = -1000000, BAD = -1000001, STATE = -1000002, FULL = -1000003;
    private static final int LOST = -1000004, FAILED = -1000005, STALE = -1000006, DOWN = -1000007;

    private static final class Copy {
        int version;
        int filled;
        int[] cells;

        Copy(int version, int filled, int[] cells) {
            this.version = version;
            this.filled = filled;
            this.cells = cells.clone();
        }
    }

    private static final class Chunk {
        int version = 1;
        int shares = 1;
        boolean leased = false;
        int holder;
        int till;
        Copy[] at;
    }

    private static final class Doc {
        int kind;
        boolean hidden = false;
        int since;
        List<Integer> row = new ArrayList<>();
    }

    private static final class Server {
        int room = 1;
        boolean up = true;
        int spoilt = 0;
    }

    private static final class World {
        int wanted, size, lease, grace, now;
        List<Server> servers = new ArrayList<>();
        List<Chunk> chunks = new ArrayList<>();
        Doc[] docs = new Doc[6];

        World copy() {
            World w = new World();
            w.wanted = wanted;
            w.size = size;
            w.lease = lease;
            w.grace = grace;
            w.now = now;
            for (Server s : servers) {
                Server t = new Server();
                t.room = s.room;
                t.up = s.up;
                t.spoilt = s.spoilt;
                w.servers.add(t);
            }
            for (Chunk c : chunks) {
                Chunk d = new Chunk();
                d.version = c.version;
                d.shares = c.shares;
                d.leased = c.leased;
                d.holder = c.holder;
                d.till = c.till;
                d.at = new Copy[servers.size()];
                for (int s = 0; s < d.at.length; s++) {
                    d.at[s] = c.at[s] == null ? null : new Copy(c.at[s].version, c.at[s].filled, c.at[s].cells);
                }
                w.chunks.add(d);
            }
            for (int f = 0; f < 6; f++) {
                if (docs[f] != null) {
                    w.docs[f] = new Doc();
                    w.docs[f].kind = docs[f].kind;
                    w.docs[f].hidden = docs[f].hidden;
                    w.docs[f].since = docs[f].since;
                    w.docs[f].row = new ArrayList<>(docs[f].row);
                }
            }
            return w;
        }
    }

    private final StringBuilder tape = new StringBuilder();
    private World w = null;
    private int latest = 0;
    private final Deque<World> acts = new ArrayDeque<>();
    private final World[] images = new World[2];

    // ---- sets of servers

    private static boolean good(Chunk c, int s) {
        return c.at[s] != null && c.at[s].version == c.version;
    }

    private static TreeSet<Integer> able(World w, Chunk c) {
        TreeSet<Integer> set = new TreeSet<>();
        for (int s = 0; s < w.servers.size(); s++) {
            if (w.servers.get(s).up && good(c, s)) {
                set.add(s);
            }
        }
        return set;
    }

    private static TreeSet<Integer> ups(World w) {
        TreeSet<Integer> set = new TreeSet<>();
        for (int s = 0; s < w.servers.size(); s++) {
            if (w.servers.get(s).up) {
                set.add(s);
            }
        }
        return set;
    }

    private static int copies(World w, int s) {
        int n = 0;
        for (Chunk c : w.chunks) {
            n += c.at[s] != null ? 1 : 0;
        }
        return n;
    }

    private static float load(World w, int s) {
        return (float) copies(w, s) / (float) w.servers.get(s).room;
    }

    private static int best(World w, TreeSet<Integer> of) {
        int found = of.first();
        for (int s : of) {
            if (load(w, s) < load(w, found)) {
                found = s;
            }
        }
        return found;
    }

    private static int bits(TreeSet<Integer> set) {
        int b = 0;
        for (int s : set) {
            b += 1 << s;
        }
        return b;
    }

    private static boolean holds(World w, Chunk c) {
        return c.leased && w.now < c.till && w.servers.get(c.holder).up && good(c, c.holder);
    }

    private static int wantedOf(World w, int kind) {
        return kind == 5 ? 1 : kind == 3 ? w.wanted + 1 : w.wanted;
    }

    private static int graceOf(World w, int kind) {
        return kind == 4 || kind == 5 ? 0 : w.grace;
    }

    private static TreeSet<Integer> placesForNew(World w, int kind) {
        TreeSet<Integer> got = new TreeSet<>();
        for (int i = 0; i < wantedOf(w, kind); i++) {
            TreeSet<Integer> rest = ups(w);
            rest.removeAll(got);
            if (!rest.isEmpty()) {
                got.add(best(w, rest));
            }
        }
        return got;
    }

    // ---- what is done to a world; 0 or a refusal

    private static int newChunk(World w, Doc doc) {
        if (w.chunks.size() == 30 || doc.row.size() == 4) {
            return FULL;
        }
        if (ups(w).isEmpty()) {
            return LOST;
        }
        int[] empty = new int[w.size];
        java.util.Arrays.fill(empty, NONE);
        Chunk c = new Chunk();
        c.at = new Copy[w.servers.size()];
        for (int s : placesForNew(w, doc.kind)) {
            c.at[s] = new Copy(1, 0, empty);
        }
        doc.row.add(w.chunks.size());
        w.chunks.add(c);
        return 0;
    }

    private static int owned(World w, Doc doc, int k) {
        Chunk old = w.chunks.get(doc.row.get(k));
        if (old.shares <= 1) {
            return 0;
        }
        if (w.chunks.size() == 30) {
            return FULL;
        }
        if (able(w, old).isEmpty()) {
            return LOST;
        }
        Chunk c = new Chunk();
        c.at = new Copy[w.servers.size()];
        for (int s : able(w, old)) {
            c.at[s] = new Copy(1, old.at[s].filled, old.at[s].cells);
        }
        old.shares--;
        doc.row.set(k, w.chunks.size());
        w.chunks.add(c);
        return 0;
    }

    private static int leased(World w, Chunk c) {
        TreeSet<Integer> able = able(w, c);
        if (able.isEmpty()) {
            return LOST;
        }
        c.version++;
        for (int s : able) {
            c.at[s].version = c.version;
        }
        c.leased = true;
        c.holder = best(w, able);
        c.till = w.now + w.lease;
        return 0;
    }

    private static void write(Copy copy, int o, String record) {
        for (int i = 0; i < record.length(); i++) {
            copy.cells[o + i] = record.charAt(i);
        }
        copy.filled = o + record.length();
    }

    private static boolean aTry(World w, Chunk c, int o, String record) {
        Server holder = w.servers.get(c.holder);
        if (holder.spoilt > 0) {
            holder.spoilt--;
            return false;
        }
        int first = c.holder;
        write(c.at[first], o, record);
        boolean none = true;
        for (int s = 0; s < w.servers.size(); s++) {
            if (s == first || !good(c, s)) {
                continue;
            }
            if (!w.servers.get(s).up) {
                none = false;
                c.leased = false;
            } else if (w.servers.get(s).spoilt > 0) {
                none = false;
                w.servers.get(s).spoilt--;
            } else {
                write(c.at[s], o, record);
            }
        }
        return none;
    }

    private static int appended(World w, Doc doc, String record) {
        if (doc.row.isEmpty()) {
            int r = newChunk(w, doc);
            if (r != 0) {
                return r;
            }
        }
        int owned = owned(w, doc, doc.row.size() - 1);
        if (owned != 0) {
            return owned;
        }
        int tries = 0;
        while (true) {
            Chunk c = w.chunks.get(doc.row.get(doc.row.size() - 1));
            if (!holds(w, c)) {
                int r = leased(w, c);
                if (r != 0) {
                    return r;
                }
            }
            int o = 0;
            for (int s : able(w, c)) {
                o = Math.max(o, c.at[s].filled);
            }
            if (o + record.length() > w.size) {
                for (int s : able(w, c)) {
                    for (int i = o; i < w.size; i++) {
                        if (c.at[s].cells[i] == NONE) {
                            c.at[s].cells[i] = 0;
                        }
                    }
                    c.at[s].filled = w.size;
                }
                int r = newChunk(w, doc);
                if (r != 0) {
                    return r;
                }
                continue;
            }
            if (aTry(w, c, o, record)) {
                return w.size * (doc.row.size() - 1) + o;
            }
            tries++;
            if (tries == 3) {
                return FAILED;
            }
        }
    }

    private static int toMend(World w) {
        for (int n = 0; n < w.chunks.size(); n++) {
            Chunk c = w.chunks.get(n);
            TreeSet<Integer> able = able(w, c);
            int most = 0;
            for (Doc doc : w.docs) {
                if (doc != null && doc.row.contains(n)) {
                    most = Math.max(most, wantedOf(w, doc.kind));
                }
            }
            if (c.shares > 0 && !able.isEmpty() && able.size() < most && able.size() < ups(w).size()) {
                return n;
            }
        }
        return NONE;
    }

    private static int mended(World w) {
        int n = toMend(w);
        if (n != NONE) {
            Chunk c = w.chunks.get(n);
            TreeSet<Integer> rest = ups(w);
            rest.removeAll(able(w, c));
            Copy like = c.at[able(w, c).first()];
            c.at[best(w, rest)] = new Copy(like.version, like.filled, like.cells);
        }
        return n;
    }

    private static void gone(World w, int f) {
        for (int n : w.docs[f].row) {
            w.chunks.get(n).shares--;
        }
        w.docs[f] = null;
    }

    // ---- the calls

    private void keep() {
        acts.addLast(w.copy());
        if (acts.size() > 6) {
            acts.removeFirst();
        }
    }

    private boolean there(int f) {
        return w.docs[f] != null && !w.docs[f].hidden;
    }

    private boolean noServer(int s) {
        return w == null || s < 0 || s >= w.servers.size();
    }

    private static boolean noFile(int f) {
        return f < 0 || f > 5;
    }

    int feed(int letter) {
        if (letter < 0 || letter > 255) {
            return BAD;
        }
        if (tape.length() == 80) {
            return FULL;
        }
        tape.append((char) letter);
        return tape.length();
    }

    int fault() {
        return latest;
    }

    /** By a list of tokens and a list of what may stand: another way than the class goes. */
    int house() {
        String text = tape.toString();
        tape.setLength(0);
        List<int[]> tokens = new ArrayList<>();
        for (int i = 0; i < text.length();) {
            int j = i;
            while (j < text.length() && Character.isDigit(text.charAt(j)) && text.charAt(j) < 128) {
                j++;
            }
            if (j == i) {
                tokens.add(new int[] {i, text.charAt(i), -1});
                i++;
            } else {
                tokens.add(new int[] {i, j - i > 2 ? -1 : '0', j - i > 2 ? -1 : Integer.parseInt(text.substring(i, j))});
                i = j;
            }
        }
        tokens.add(new int[] {text.length(), -2, -1});
        World made = new World();
        int fault = 0;
        int at = 0;
        int[][] head = {{'h'}, {'0', 2, 5}, {','}, {'0', 1, 3}, {','}, {'0', 4, 9}, {','}, {'0', 1, 20}, {','}, {'0', 0, 20}, {';'}};
        int[] told = new int[11];
        for (; at < head.length && fault == 0; at++) {
            int[] t = tokens.get(at);
            if (t[1] != head[at][0]) {
                fault = 1;
            } else if (t[1] == '0' && (t[2] < head[at][1] || t[2] > head[at][2])) {
                fault = 2;
            }
            told[at] = t[2];
        }
        if (fault != 0) {
            latest = fault;
            return -1000100 - tokens.get(at - 1)[0];
        }
        made.wanted = told[3];
        made.size = told[5];
        made.lease = told[7];
        made.grace = told[9];
        for (int s = 0; s < told[1]; s++) {
            made.servers.add(new Server());
        }
        int servers = 0;
        int files = 0;
        while (tokens.get(at)[1] != -2) {
            boolean ofServer = tokens.get(at)[1] == 's' && files == 0;
            if (!ofServer && tokens.get(at)[1] != 'f') {
                fault = 1;
                break;
            }
            if (ofServer && servers == told[1] || !ofServer && files == 6) {
                fault = 3;
                break;
            }
            at++;
            if (tokens.get(at)[1] != '0') {
                fault = 1;
                break;
            }
            int number = tokens.get(at)[2];
            if (number < 1 || number > (ofServer ? 9 : 5)) {
                fault = 2;
                break;
            }
            at++;
            if (tokens.get(at)[1] != ';') {
                fault = 1;
                break;
            }
            at++;
            if (ofServer) {
                made.servers.get(servers++).room = number;
            } else {
                made.docs[files] = new Doc();
                made.docs[files++].kind = number;
            }
        }
        if (fault != 0) {
            latest = fault;
            return -1000100 - tokens.get(at)[0];
        }
        w = made;
        acts.clear();
        return files;
    }

    int undo() {
        if (acts.isEmpty()) {
            return STATE;
        }
        w = acts.removeLast();
        return acts.size();
    }

    int create(int f, int kind) {
        if (w == null) {
            return STATE;
        }
        if (noFile(f) || kind < 1 || kind > 5) {
            return BAD;
        }
        if (w.docs[f] != null) {
            return STATE;
        }
        keep();
        w.docs[f] = new Doc();
        w.docs[f].kind = kind;
        return count(2);
    }

    private String takeTape() {
        String record = tape.toString();
        tape.setLength(0);
        return record;
    }

    private int refusal(int f, String record) {
        if (w == null) {
            return STATE;
        }
        if (noFile(f) || !record.matches("[a-z]+") || record.length() > w.size) {
            return BAD;
        }
        return there(f) ? 0 : STATE;
    }

    int append(int f) {
        String record = takeTape();
        int r = refusal(f, record);
        if (r != 0) {
            return r;
        }
        keep();
        return appended(w, w.docs[f], record);
    }

    int put(int f, int i, int letter) {
        if (w == null) {
            return STATE;
        }
        if (noFile(f)) {
            return BAD;
        }
        if (!there(f) || w.docs[f].kind == 2) {
            return STATE;
        }
        if (i < 0 || i >= w.size * w.docs[f].row.size() || letter < 97 || letter > 122) {
            return BAD;
        }
        keep();
        int r = owned(w, w.docs[f], i / w.size);
        if (r != 0) {
            return r;
        }
        Chunk c = w.chunks.get(w.docs[f].row.get(i / w.size));
        r = leased(w, c);
        if (r != 0) {
            return r;
        }
        int at = 0;
        for (int s : able(w, c)) {
            if (w.servers.get(s).spoilt > 0) {
                w.servers.get(s).spoilt--;
                c.at[s].version = 0;
            } else {
                c.at[s].cells[i % w.size] = letter;
                if (c.at[s].filled <= i % w.size) {
                    c.at[s].filled = i % w.size + 1;
                }
                at++;
            }
        }
        return at == 0 ? LOST : at;
    }

    int both(int f, int to) {
        if (w == null) {
            return STATE;
        }
        if (noFile(f) || noFile(to)) {
            return BAD;
        }
        if (!there(f) || w.docs[to] != null) {
            return STATE;
        }
        keep();
        Doc d = new Doc();
        d.kind = w.docs[f].kind;
        for (int n : w.docs[f].row) {
            d.row.add(n);
            w.chunks.get(n).shares++;
            w.chunks.get(n).leased = false;
        }
        w.docs[to] = d;
        return d.row.size();
    }

    private int refusal(int f) {
        if (w == null) {
            return STATE;
        }
        return noFile(f) ? BAD : there(f) ? 0 : STATE;
    }

    int remove(int f) {
        int r = refusal(f);
        if (r != 0) {
            return r;
        }
        keep();
        int grace = graceOf(w, w.docs[f].kind);
        if (grace == 0) {
            gone(w, f);
        } else {
            w.docs[f].hidden = true;
            w.docs[f].since = w.now;
        }
        return w.now + grace;
    }

    int bring(int f) {
        if (w == null) {
            return STATE;
        }
        if (noFile(f)) {
            return BAD;
        }
        if (w.docs[f] == null || !w.docs[f].hidden) {
            return STATE;
        }
        keep();
        w.docs[f].hidden = false;
        return w.docs[f].since;
    }

    int tick(int n) {
        if (w == null) {
            return STATE;
        }
        if (n < 1 || n > 50) {
            return BAD;
        }
        keep();
        w.now += n;
        int many = 0;
        for (int f = 0; f < 6; f++) {
            if (w.docs[f] != null && w.docs[f].hidden && w.docs[f].since + graceOf(w, w.docs[f].kind) <= w.now) {
                gone(w, f);
                many++;
            }
        }
        return many;
    }

    int down(int s) {
        if (noServer(s)) {
            return BAD;
        }
        if (!w.servers.get(s).up) {
            return STATE;
        }
        keep();
        w.servers.get(s).up = false;
        return ups(w).size();
    }

    int up(int s) {
        if (noServer(s)) {
            return BAD;
        }
        if (w.servers.get(s).up) {
            return STATE;
        }
        keep();
        w.servers.get(s).up = true;
        return ups(w).size();
    }

    int spoil(int s, int n) {
        if (noServer(s) || n < 0 || n > 9) {
            return BAD;
        }
        keep();
        int was = w.servers.get(s).spoilt;
        w.servers.get(s).spoilt = n;
        return was;
    }

    int beat(int s) {
        if (noServer(s)) {
            return BAD;
        }
        if (!w.servers.get(s).up) {
            return STATE;
        }
        keep();
        int many = 0;
        for (Chunk c : w.chunks) {
            if (c.at[s] != null && (!good(c, s) || c.shares == 0)) {
                c.at[s] = null;
                many++;
            }
        }
        return many;
    }

    int mend() {
        if (w == null) {
            return STATE;
        }
        if (toMend(w) == NONE) {
            return NONE;
        }
        keep();
        return mended(w);
    }

    int server(int s, int what) {
        if (noServer(s) || what < 0 || what > 6) {
            return BAD;
        }
        int stale = 0;
        int forgotten = 0;
        for (Chunk c : w.chunks) {
            stale += c.at[s] != null && !good(c, s) ? 1 : 0;
            forgotten += c.at[s] != null && c.shares == 0 ? 1 : 0;
        }
        Server v = w.servers.get(s);
        return new int[] {v.up ? 1 : 0, v.room, copies(w, s), stale, forgotten, v.spoilt, (int) (load(w, s) * 1000f)}[what];
    }

    int chunk(int n, int what) {
        if (w == null || n < 0 || n >= w.chunks.size() || what < 0 || what > 6) {
            return BAD;
        }
        Chunk c = w.chunks.get(n);
        int good = 0;
        int stale = 0;
        for (int s = 0; s < w.servers.size(); s++) {
            good |= good(c, s) ? 1 << s : 0;
            stale |= c.at[s] != null && !good(c, s) ? 1 << s : 0;
        }
        boolean holds = holds(w, c);
        return new int[] {c.version, c.shares, holds ? c.holder : NONE, holds ? c.till : NONE, good, stale, bits(able(w, c))}[what];
    }

    int file(int f, int what) {
        if (w == null) {
            return STATE;
        }
        if (noFile(f) || what < 0 || what > 13 || what > 3 && what < 10) {
            return BAD;
        }
        Doc d = w.docs[f];
        if (what >= 10) {
            return d == null || d.row.size() <= what - 10 ? NONE : d.row.get(what - 10);
        }
        if (d == null) {
            return what == 0 || what == 2 ? 0 : NONE;
        }
        return new int[] {d.hidden ? 2 : 1, d.kind, d.row.size(), d.hidden ? d.since : NONE}[what];
    }

    int part(int s, int n, int what) {
        if (noServer(s) || n < 0 || n >= w.chunks.size()) {
            return BAD;
        }
        if (what < 0 || what > 1 && what < 10 || what >= 10 + w.size) {
            return BAD;
        }
        Copy copy = w.chunks.get(n).at[s];
        if (copy == null) {
            return NONE;
        }
        return what == 0 ? copy.version : what == 1 ? copy.filled : copy.cells[what - 10];
    }

    int read(int f, int i, int s) {
        if (w == null) {
            return STATE;
        }
        if (noFile(f) || noServer(s)) {
            return BAD;
        }
        if (!there(f)) {
            return STATE;
        }
        if (i < 0 || i >= w.size * w.docs[f].row.size()) {
            return BAD;
        }
        Chunk c = w.chunks.get(w.docs[f].row.get(i / w.size));
        if (!w.servers.get(s).up) {
            return DOWN;
        }
        return c.at[s] == null ? NONE : !good(c, s) ? STALE : c.at[s].cells[i % w.size];
    }

    int find(int f) {
        String record = takeTape();
        int r = refusal(f, record);
        if (r != 0) {
            return r;
        }
        int places = 0;
        for (int n : w.docs[f].row) {
            Chunk c = w.chunks.get(n);
            if (able(w, c).isEmpty()) {
                return LOST;
            }
            StringBuilder text = new StringBuilder();
            for (int cell : c.at[able(w, c).first()].cells) {
                text.append(cell > 0 ? (char) cell : ' ');
            }
            for (int from = text.indexOf(record); from >= 0; from = text.indexOf(record, from + 1)) {
                places++;
            }
        }
        return places;
    }

    int sums(int what) {
        if (w == null) {
            return STATE;
        }
        if (what < 0 || what > 6) {
            return BAD;
        }
        int[] sums = new int[7];
        sums[0] = w.now;
        sums[1] = w.chunks.size();
        for (Chunk c : w.chunks) {
            sums[2] += c.shares == 0 ? 1 : 0;
            for (int s = 0; s < w.servers.size(); s++) {
                if (c.at[s] != null) {
                    sums[3]++;
                    sums[4] += good(c, s) ? 0 : 1;
                    for (int cell : c.at[s].cells) {
                        sums[5] += good(c, s) && cell > 0 ? 1 : 0;
                        sums[6] += good(c, s) && cell == 0 ? 1 : 0;
                    }
                }
            }
        }
        return sums[what];
    }

    int as(int f, int kind) {
        if (w == null) {
            return STATE;
        }
        if (noFile(f) || kind < 0 || kind > 5) {
            return BAD;
        }
        if (w.docs[f] == null) {
            return STATE;
        }
        String[] above = {"0", "01", "012", "013", "04", "045"};
        return above[w.docs[f].kind].indexOf('0' + kind) >= 0 ? f : NONE;
    }

    int target(int kind) {
        if (w == null) {
            return STATE;
        }
        return kind < 1 || kind > 5 ? BAD : bits(placesForNew(w, kind));
    }

    int left(int f) {
        int r = refusal(f);
        if (r != 0) {
            return r;
        }
        List<Integer> row = w.docs[f].row;
        if (row.isEmpty()) {
            return NONE;
        }
        Chunk c = w.chunks.get(row.get(row.size() - 1));
        int least = NONE;
        for (int s : able(w, c)) {
            least = least == NONE ? w.size - c.at[s].filled : Math.min(least, w.size - c.at[s].filled);
        }
        return least;
    }

    private boolean readableWithout(int f, int gone) {
        for (int n : w.docs[f].row) {
            if ((bits(able(w, w.chunks.get(n))) & ~gone) == 0) {
                return false;
            }
        }
        return true;
    }

    /** By trying all sets of servers that go down. */
    int strength(int f) {
        int r = refusal(f);
        if (r != 0) {
            return r;
        }
        if (w.docs[f].row.isEmpty() || !readableWithout(f, 0)) {
            return NONE;
        }
        int fewest = 99;
        for (int gone = 0; gone < 32; gone++) {
            if (!readableWithout(f, gone)) {
                fewest = Math.min(fewest, Integer.bitCount(gone));
            }
        }
        return fewest - 1;
    }

    int mends() {
        if (w == null) {
            return STATE;
        }
        World kept = w.copy();
        int many = 0;
        while (mended(w) != NONE) {
            many++;
        }
        w = kept;
        return many;
    }

    long odds(int f, int p, int what) {
        if (w == null) {
            return STATE;
        }
        if (noFile(f) || p < 0 || p > 10 || what < 0 || what > 1) {
            return BAD;
        }
        if (!there(f)) {
            return STATE;
        }
        long above = 0;
        long below = 0;
        int up = bits(ups(w));
        for (int gone = 0; gone < 32; gone++) {
            if ((gone & up) == gone) {
                long cases = 1;
                for (int s : ups(w)) {
                    cases *= (gone >> s & 1) == 1 ? p : 10 - p;
                }
                below += cases;
                above += readableWithout(f, gone) ? cases : 0;
            }
        }
        if (above == 0) {
            return what == 0 ? 0 : 1;
        }
        java.math.BigInteger a = java.math.BigInteger.valueOf(above);
        long by = a.gcd(java.math.BigInteger.valueOf(below)).longValue();
        return what == 0 ? above / by : below / by;
    }

    int drawn(int n, int seed, int what) {
        if (w == null) {
            return STATE;
        }
        if (n < 0 || n > 12 || seed < 1 || seed > 999999 || what < 0 || what > 2) {
            return BAD;
        }
        World t = w.copy();
        long x = seed;
        int placed = 0;
        for (int i = 0; i < n; i++) {
            x = x * 16807L % 2147483647L;
            Server v = t.servers.get((int) (x / 128 % t.servers.size()));
            v.spoilt = v.spoilt == 9 ? 9 : v.spoilt + 1;
            Doc d = t.docs[(int) (x % 6)];
            if (d != null && !d.hidden) {
                String letter = String.valueOf((char) (97 + x / 64 % 26));
                placed += appended(t, d, letter.repeat(1 + (int) (x / 8 % t.size))) >= 0 ? 1 : 0;
            }
        }
        int copies = 0;
        for (int s = 0; s < t.servers.size(); s++) {
            copies += copies(t, s);
        }
        return what == 0 ? placed : what == 1 ? t.chunks.size() : copies;
    }

    int image(int k) {
        if (k != 0 && k != 1) {
            return BAD;
        }
        if (w == null) {
            return STATE;
        }
        images[k] = w.copy();
        return 1;
    }

    int restore(int k) {
        if (k != 0 && k != 1) {
            return BAD;
        }
        if (images[k] == null) {
            return STATE;
        }
        w = images[k].copy();
        acts.clear();
        return 1;
    }

    int count(int what) {
        if (what < 0 || what > 6) {
            return BAD;
        }
        int there = 0;
        int hidden = 0;
        for (int f = 0; f < 6 && w != null; f++) {
            there += there(f) ? 1 : 0;
            hidden += w.docs[f] != null && w.docs[f].hidden ? 1 : 0;
        }
        int servers = w == null ? 0 : w.servers.size();
        int up = w == null ? 0 : ups(w).size();
        int chunks = w == null ? 0 : w.chunks.size();
        return new int[] {servers, up, there, hidden, chunks, acts.size(), tape.length()}[what];
    }
}
