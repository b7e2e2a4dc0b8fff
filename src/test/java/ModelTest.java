import java.lang.reflect.InvocationTargetException;
import java.lang.reflect.Method;
import java.util.ArrayList;
import java.util.Arrays;
import java.util.List;
import java.util.Random;

/** All promises: runs of drawn calls, 512 each, on the class and on Model; both must answer alike, and none may throw. */
public final class ModelTest {
    private static final int RUNS = 400;
    private static final int CALLS = 512;
    private static final int[] ODD = {-1, -2, 6, 7, 10, 14, 31, 255, 256, 1000000, Integer.MIN_VALUE, Integer.MAX_VALUE};
    private static final String[] STEADY = {"append", "append", "append", "append", "append", "append", "append", "put", "put", "put",
        "both", "remove", "bring", "bring", "tick", "down", "up", "up", "spoil", "spoil", "beat", "mend", "create", "undo"};
    private static final String[] DEEDS = {"append", "append", "append", "append", "put", "put", "both", "remove", "bring",
        "tick", "down", "up", "up", "spoil", "beat", "mend", "create", "undo", "house", "image", "restore"};

    private final Random random;
    /** A steady run keeps to one house and fills it; a wild one reads houses and images again and again. */
    private final boolean steady;
    private final GreatChunks x = new GreatChunks();
    private final Model model = new Model();
    private final StringBuilder told = new StringBuilder();
    private int calls = 0;

    private ModelTest(long seed) {
        // Near seeds begin with near draws, so they are spread first.
        random = new Random(seed * 0x9E3779B97F4A7C15L);
        steady = seed % 2 == 0;
    }

    public static void main(String[] args) throws ReflectiveOperationException {
        long first = args.length > 0 ? Long.parseLong(args[0]) : 1;
        int runs = args.length > 1 ? Integer.parseInt(args[1]) : RUNS;
        int wrong = 0;
        long asked = 0;
        for (long seed = first; seed < first + runs && wrong < 3; seed++) {
            ModelTest run = new ModelTest(seed);
            if (!run.goes()) {
                wrong++;
                System.out.println("ModelTest, seed " + seed + ":\n" + run.told);
            }
            asked += run.calls;
        }
        System.out.println("ModelTest: " + asked + " answers, " + wrong + " wrong");
        if (wrong != 0) {
            System.exit(1);
        }
    }

    private boolean goes() throws ReflectiveOperationException {
        boolean startsTold = steady || random.nextInt(4) > 0;
        for (int turn = 0; startsTold && turn < 10 && x.count(0) == 0; turn++) {
            if (!tellHouse()) {
                return false;
            }
        }
        while (calls < CALLS) {
            int way = random.nextInt(100);
            boolean fine = way < 40 ? look() : way < 97 || steady ? deed() && isAlike() : call(anyMethod());
            if (!fine) {
                return false;
            }
        }
        return true;
    }

    private boolean deed() throws ReflectiveOperationException {
        String[] names = steady ? STEADY : DEEDS;
        String name = names[random.nextInt(names.length)];
        if (name.equals("house")) {
            return random.nextInt(8) > 0 || tellHouse();
        }
        if ((name.equals("restore") || name.equals("undo") || name.equals("down")) && random.nextInt(3) > 0) {
            return true;
        }
        if (name.equals("append") && !tellRecord()) {
            return false;
        }
        return call(method(name));
    }

    /** Whether all that can be seen is alike. The class does not count its calls, so these are not counted either. */
    private boolean isAlike() {
        boolean alike = x.count(5) == model.count(5) && x.count(6) == model.count(6) && x.sums(0) == model.sums(0);
        for (int what = 0; what < 14; what++) {
            for (int i = 0; i < 6; i++) {
                alike &= x.file(i, what) == model.file(i, what) && x.server(i, what) == model.server(i, what);
            }
            for (int n = 0; n <= x.count(4); n++) {
                alike &= x.chunk(n, what) == model.chunk(n, what);
            }
        }
        for (int n = 0; n < x.count(4); n++) {
            for (int s = 0; s < x.count(0); s++) {
                for (int what = 0; what < 19; what++) {
                    alike &= x.part(s, n, what) == model.part(s, n, what);
                }
            }
        }
        if (!alike) {
            told.append("behind this the two are not alike");
        }
        return alike;
    }

    private boolean look() throws ReflectiveOperationException {
        String[] names = {"server", "chunk", "file", "part", "read", "find", "sums", "as", "target", "left", "strength",
            "mends", "odds", "drawn", "count", "fault", "chunk", "part", "part", "read"};
        String name = names[random.nextInt(names.length)];
        return (!name.equals("find") || tellRecord()) && call(method(name));
    }

    private boolean tellRecord() throws ReflectiveOperationException {
        int many = 1 + random.nextInt(random.nextInt(4) == 0 ? 10 : 4);
        for (int i = 0; i < many; i++) {
            int letter = random.nextInt(150) == 0 ? random.nextInt(256) : 'a' + random.nextInt(3);
            if (!call(method("feed"), letter)) {
                return false;
            }
        }
        return true;
    }

    private boolean tellHouse() throws ReflectiveOperationException {
        StringBuilder text = new StringBuilder("h");
        text.append(2 + random.nextInt(4)).append(',').append(1 + random.nextInt(3)).append(',');
        text.append(4 + random.nextInt(6)).append(',').append(1 + random.nextInt(20)).append(',');
        text.append(random.nextInt(3) == 0 ? 0 : random.nextInt(21)).append(';');
        for (int s = random.nextInt(text.charAt(1) - '0' + 1); s > 0; s--) {
            text.append('s').append(1 + random.nextInt(9)).append(';');
        }
        for (int f = steady ? 3 + random.nextInt(4) : random.nextInt(7); f > 0; f--) {
            text.append('f').append(1 + random.nextInt(5)).append(';');
        }
        for (int slips = random.nextInt(3) == 0 ? 1 + random.nextInt(2) : 0; slips > 0; slips--) {
            slip(text);
        }
        for (int i = 0; i < text.length(); i++) {
            if (!call(method("feed"), text.charAt(i))) {
                return false;
            }
        }
        return call(method("house"));
    }

    private void slip(StringBuilder text) {
        String signs = "hsf,;0123456789xS ";
        int place = random.nextInt(text.length());
        char sign = signs.charAt(random.nextInt(signs.length()));
        int how = random.nextInt(4);
        if (how == 0) {
            text.setCharAt(place, sign);
        } else if (how == 1) {
            text.insert(place, sign);
        } else if (how == 2 && text.length() > 1) {
            text.deleteCharAt(place);
        } else if (how == 3) {
            text.append(random.nextBoolean() ? "s1;" : "f1;");
        }
    }

    private static final Method[] METHODS = faceMethods();

    private static Method[] faceMethods() {
        List<Method> found = new ArrayList<>();
        for (Method m : GreatChunks.class.getDeclaredMethods()) {
            if (java.lang.reflect.Modifier.isPublic(m.getModifiers())) {
                found.add(m);
            }
        }
        found.sort((a, b) -> a.getName().compareTo(b.getName()));
        return found.toArray(new Method[0]);
    }

    private Method anyMethod() {
        return METHODS[random.nextInt(METHODS.length)];
    }

    private static Method method(String name) {
        for (Method m : METHODS) {
            if (m.getName().equals(name)) {
                return m;
            }
        }
        throw new IllegalArgumentException(name);
    }

    private int number(String name, int place) {
        if (random.nextInt(60) == 0) {
            return ODD[random.nextInt(ODD.length)];
        }
        boolean ofFile = "append put both remove bring create file read find as left strength odds".contains(name) && !name.equals("up");
        if (place == 0) {
            switch (name) {
                case "feed": return random.nextInt(256);
                case "tick": return random.nextInt(3) == 0 ? 1 + random.nextInt(50) : 1 + random.nextInt(3);
                case "chunk": return random.nextInt(Math.max(1, x.count(4)) + 1);
                case "sums": case "count": return random.nextInt(8) - (random.nextInt(20) == 0 ? 1 : 0);
                case "target": return random.nextInt(7);
                case "image": case "restore": return random.nextInt(2);
                case "drawn": return random.nextInt(13);
                default: return random.nextInt(ofFile ? 6 : 5);
            }
        }
        switch (name + place) {
            case "put1": case "read1": return random.nextInt(random.nextInt(10) == 0 ? 40 : 12);
            case "put2": return 'a' + random.nextInt(3);
            case "read2": return random.nextInt(5);
            case "part1": return random.nextInt(Math.max(1, x.count(4)));
            case "part2": return random.nextInt(5) == 0 ? random.nextInt(3) : 10 + random.nextInt(9);
            case "spoil1": return random.nextInt(random.nextInt(5) == 0 ? 10 : 3);
            case "file1": return random.nextBoolean() ? random.nextInt(5) : 10 + random.nextInt(5);
            case "odds1": return random.nextInt(11);
            case "odds2": return random.nextInt(2);
            case "drawn1": return 1 + random.nextInt(999999);
            case "drawn2": return random.nextInt(3);
            default: return random.nextInt(7);
        }
    }

    private boolean call(Method face, int... given) throws ReflectiveOperationException {
        Object[] args = new Object[face.getParameterCount()];
        for (int i = 0; i < args.length; i++) {
            args[i] = i < given.length ? given[i] : number(face.getName(), i);
        }
        calls++;
        told.append(face.getName()).append(Arrays.toString(args));
        long want = ((Number) twin(face).invoke(model, args)).longValue();
        try {
            long got = ((Number) face.invoke(x, args)).longValue();
            told.append(" = ").append(got).append('\n');
            if (got != want) {
                told.append("due is ").append(want);
            }
            return got == want;
        } catch (InvocationTargetException thrown) {
            told.append(" threw ").append(thrown.getCause()).append(", due is ").append(want);
            return false;
        }
    }

    private static Method twin(Method face) throws NoSuchMethodException {
        return Model.class.getDeclaredMethod(face.getName(), face.getParameterTypes());
    }
}
