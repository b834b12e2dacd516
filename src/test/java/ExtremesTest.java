import java.lang.reflect.InvocationTargetException;
import java.lang.reflect.Method;
import java.util.ArrayList;
import java.util.List;

/** Every method with numbers at the bounds, beside them and far away, all together: each answer against the Model's. */
public final class ExtremesTest {
    private static final Due DUE = new Due("ExtremesTest");
    private static final int MOST_CALLS = 512;
    private static final int MOST_OF_ONE = 8000;
    private static final long[] INTS = {Integer.MIN_VALUE, Integer.MIN_VALUE + 1, -2, -1, 0, 1, 2, 3, 4, 5, 6, 7, 8, 9, 10,
        11, 12, 30, 31, 32, 39, 40, 41, 160, 999, 1000, Integer.MAX_VALUE - 1, Integer.MAX_VALUE};
    private static final long[] LONGS = {Long.MIN_VALUE, Long.MIN_VALUE + 1, -1, 0, 1, 2, 3, 9, 11, 21, 111,
        100000000000000000L, 111111111111111111L, 999999999999999999L, 1000000000000000000L, Long.MAX_VALUE};

    private final int size;
    private ChalkStreet x;
    private Model model;
    private int made;
    private long seed = 12345;

    private ExtremesTest(int size) {
        this.size = size;
    }

    public static void main(String[] args) throws Exception {
        for (int size : new int[] {0, 3, 6}) {
            for (Method method : ChalkStreet.class.getDeclaredMethods()) {
                if (java.lang.reflect.Modifier.isPublic(method.getModifiers())) new ExtremesTest(size).all(method);
            }
        }
        DUE.end();
    }

    private void all(Method method) throws Exception {
        Class<?>[] types = method.getParameterTypes();
        long rows = 1;
        for (Class<?> type : types) rows *= numbers(type).length;
        for (long i = 0; i < Math.min(rows, MOST_OF_ONE); i++) {
            if (i == 0 || made >= MOST_CALLS) begin();
            long row = rows <= MOST_OF_ONE ? i : any(rows);
            List<Object> given = new ArrayList<>();
            for (Class<?> type : types) {
                long number = numbers(type)[(int) (row % numbers(type).length)];
                row /= numbers(type).length;
                given.add(type == int.class ? (Object) (int) number : (Object) number);
            }
            // The Model plays each row by itself: by all steps that takes too long.
            if (method.getName().equals("plays") && model.law.steps().size() > 1) begin();
            call(method, given.toArray());
            if (any(20) == 0) look();
        }
    }

    private static long[] numbers(Class<?> type) {
        return type == int.class ? INTS : LONGS;
    }

    private long any(long below) {
        seed = seed * 6364136223846793005L + 1442695040888963407L;
        return (seed >>> 1) % below;
    }

    /** Some of all that can be changed. */
    private void begin() throws Exception {
        x = new ChalkStreet(size);
        model = new Model(size);
        made = 0;
        int[][] squares = {{1, 3, 0}, {2, 5, 1}, {0, 4, 9}, {3, 1, 9}};
        for (int[] s : squares) call("square", s[0], s[1], s[2]);
        for (int t = 0; t < 3; t++) {
            call("telling", 400 * t, 3 * t);
            call("square", t, t, t);
        }
        call("gap", 1, 1);
        call("gap", 2, 3);
        for (byte sign : "take own;keep 1;".getBytes("ISO-8859-1")) call("feed", 1, (long) sign);
        call("text");
        call("force", 1);
        for (int s = 0; s < 8; s += 3) call("street", s, s / 3);
        for (int s = 0; s < 3; s++) call("sheet", s, s, 20 * s);
        for (int i = 0; i < 20; i++) call("cell", 1, i, i % 5);
    }

    /** What the calls may have changed. */
    private void look() throws Exception {
        for (int i = 0; i < 8; i++) call("count", i);
        for (int i = 0; i < 8; i++) call("has", i);
        for (int i = 0; i < 4; i++) call("marbles", i);
        for (int i = 0; i < 2; i++) call("tree", i);
        for (int s = 0; s < model.n; s++) {
            call("squareTold", s, 0);
            call("squareTold", s, 1);
        }
    }

    private void call(String name, Object... given) throws Exception {
        for (Method method : ChalkStreet.class.getDeclaredMethods()) {
            if (method.getName().equals(name)) call(method, given);
        }
    }

    private void call(Method method, Object... given) throws Exception {
        made++;
        if (made > MOST_CALLS) return;
        Method other = Model.class.getDeclaredMethod(method.getName(), method.getParameterTypes());
        long want = ((Number) other.invoke(model, given)).longValue();
        String call = size + ": " + method.getName() + java.util.Arrays.toString(given);
        try {
            DUE.is(call, ((Number) method.invoke(x, given)).longValue(), want);
        } catch (InvocationTargetException e) {
            DUE.holds(call + " throws " + e.getCause(), false);
        }
    }
}
