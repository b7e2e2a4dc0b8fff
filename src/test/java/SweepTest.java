import java.lang.reflect.InvocationTargetException;
import java.lang.reflect.Method;
import java.lang.reflect.Modifier;
import java.util.Arrays;

/**
 * All promises: in some states, each call with all numbers that are near an edge or far off, held against Model;
 * no call may throw, and what is done must leave both alike.
 */
public final class SweepTest {
    private static final Checks c = new Checks("SweepTest");
    /** An object answers for 512 calls; the states take some 120 of them. */
    private static final int CALLS_OF_ONE = 350;
    private static final int[] ONE = {Integer.MIN_VALUE, Integer.MIN_VALUE + 1, -1000001, -1000000, -256, -32, -2, -1, 0, 1, 2, 3, 4, 5, 6,
        7, 8, 9, 10, 11, 12, 13, 14, 15, 16, 18, 19, 20, 21, 29, 30, 31, 32, 33, 35, 36, 49, 50, 51, 64, 80, 96, 97, 122, 123, 128, 255, 256,
        65535, 65536, 999999, 1000000, Integer.MAX_VALUE - 1, Integer.MAX_VALUE};
    private static final int[] OF_THREE = {Integer.MIN_VALUE, -1, 0, 1, 2, 3, 4, 5, 6, 9, 10, 11, 12, 13, 18, 19, 35, 36, 97, 122, 123, 999999,
        1000000, Integer.MAX_VALUE};
    private static final String[] STATES = {
        "",
        "tell ab",
        "tell h2,1,4,1,0;|house",
        "tell h5,3,9,20,20;s1;s2;s3;s4;s5;f1;f2;f3;f4;f5;|house|tell abc|append 0|tell abcdefghi|append 1|tell z|append 2|tell z|append 4"
            + "|down 0|tell qq|append 0|put 2 0 97|up 0|remove 1|spoil 2 9|image 0|tell ab",
        "tell h2,2,4,5,3;f1;f1;|house|tell abcd|append 0|tell abcd|append 0|tell abcd|append 0|tell abc|append 0|both 0 2|both 0 3"
            + "|tick 50|down 0|down 1|tell a",
        "tell h3,1,4,1,0;f1;|house|image 1|" + "tell ab|append 0|remove 0|create 0 1|".repeat(12) + "tell abcd|append 0|both 0 5|spoil 0 3"
            + "|tell abcdefghijklmnopqrstuvwxyzabcdefghijklmnopqrstuvwxyzabcdefghijklmnopqrstuvwxyzab"};

    private GreatChunks x;
    private Model model;
    private int calls;

    public static void main(String[] args) throws ReflectiveOperationException {
        for (int state = 0; state < STATES.length; state++) {
            c.about("state " + state);
            for (Method face : GreatChunks.class.getDeclaredMethods()) {
                if (Modifier.isPublic(face.getModifiers())) {
                    new SweepTest().sweep(face, STATES[state]);
                }
            }
        }
        c.end();
    }

    private void sweep(Method face, String state) throws ReflectiveOperationException {
        int many = face.getParameterCount();
        int[] numbers = many < 3 ? ONE : OF_THREE;
        int all = 1;
        for (int i = 0; i < many; i++) {
            all *= numbers.length;
        }
        begin(state);
        for (int n = 0; n < all; n++) {
            Object[] args = new Object[many];
            int rest = n;
            for (int i = 0; i < many; i++) {
                args[i] = numbers[rest % numbers.length];
                rest /= numbers.length;
            }
            boolean isRefused = both(face, args);
            if (!isRefused && changes(face.getName())) {
                dueAlike(face.getName() + Arrays.toString(args));
                begin(state);
            } else if (calls > CALLS_OF_ONE) {
                dueAlike(face.getName());
                begin(state);
            }
        }
        dueAlike(face.getName());
    }

    private static boolean changes(String name) {
        return Arrays.asList("house", "undo", "create", "append", "put", "both", "remove", "bring", "tick", "down", "up", "spoil", "beat",
            "mend", "find", "feed", "image", "restore").contains(name);
    }

    /** Whether the answer, that must be alike, is BAD or STATE. */
    private boolean both(Method face, Object[] args) throws ReflectiveOperationException {
        Method twin = Model.class.getDeclaredMethod(face.getName(), face.getParameterTypes());
        long want = ((Number) twin.invoke(model, args)).longValue();
        calls++;
        String call = face.getName() + Arrays.toString(args);
        try {
            c.due(call, ((Number) face.invoke(x, args)).longValue(), want);
        } catch (InvocationTargetException thrown) {
            c.due(call + " threw " + thrown.getCause(), 1, 0);
        }
        return want == Checks.BAD || want == Checks.STATE;
    }

    private void begin(String state) throws ReflectiveOperationException {
        x = new GreatChunks();
        model = new Model();
        calls = 0;
        for (String step : state.split("\\|")) {
            String[] words = step.split(" ");
            if (words[0].equals("tell")) {
                for (char sign : words[1].toCharArray()) {
                    x.feed(sign);
                    model.feed(sign);
                }
            } else if (!step.isEmpty()) {
                step(words);
            }
        }
    }

    private void step(String[] words) throws ReflectiveOperationException {
        Class<?>[] types = new Class<?>[words.length - 1];
        Object[] args = new Object[words.length - 1];
        for (int i = 1; i < words.length; i++) {
            types[i - 1] = int.class;
            args[i - 1] = Integer.parseInt(words[i]);
        }
        both(GreatChunks.class.getDeclaredMethod(words[0], types), args);
    }

    private void dueAlike(String call) {
        boolean alike = true;
        for (int what = 0; what < 7; what++) {
            alike &= x.count(what) == model.count(what) && x.sums(what) == model.sums(what);
            for (int i = 0; i < 30; i++) {
                alike &= x.server(i, what) == model.server(i, what) && x.chunk(i, what) == model.chunk(i, what);
            }
        }
        for (int what = 0; what < 19; what++) {
            for (int i = 0; i < 6; i++) {
                alike &= x.file(i, what) == model.file(i, what);
                for (int n = 0; n < x.count(4); n++) {
                    alike &= x.part(i, n, what) == model.part(i, n, what);
                }
            }
        }
        c.due(call + ": both are alike behind it", alike && x.fault() == model.fault() ? 1 : 0, 1);
    }
}
