import java.lang.reflect.Method;
import java.util.function.Supplier;

/** Every call with every choice of arguments at and around the bounds, on days of three sizes, against Model. */
public final class SweepTest {
    private static final int MIN = Integer.MIN_VALUE, MAX = Integer.MAX_VALUE;
    /** The more arguments a call has, the fewer numbers are tried for each. */
    private static final int[][] TRIED = {
        {},
        {MIN, -10, -9, -8, -2, -1, 0, 1, 2, 3, 4, 5, 6, 7, 8, 9, 10, 15, 16, 31, 32, 33, 63, 64, 65, MAX},
        {MIN, -10, -9, -8, -2, -1, 0, 1, 2, 3, 4, 5, 6, 7, 8, 9, 10, 11, 31, 32, 63, 64, MAX - 1, MAX},
        {MIN, -1, 0, 1, 2, 3, 4, 5, 6, 8, 9, 59, 60, 61, MAX},
        {MIN, -1, 0, 1, 2, 3, 4, 5, 43, 60, MAX},
        {MIN, -1, 0, 1, 3, 4, 13, 20, MAX},
    };
    /** An object is used for at most 512 calls; some go by making it as it is wanted. */
    private static final int CALLS = 380;

    private final Due due = new Due();

    public static void main(String[] args) {
        SweepTest test = new SweepTest();
        for (int size = 0; size < 3; size++) {
            for (Method m : Call.all()) {
                test.sweep(size, m.getName(), TRIED[m.getParameterCount()], m.getParameterCount());
            }
        }
        test.due.end();
    }

    private void sweep(int size, String call, int[] tried, int count) {
        ColdOaths real = null;
        Model model = null;
        int all = (int) Math.pow(tried.length, count);
        for (int k = 0; k < all; k++) {
            if (k % (CALLS / 2) == 0) {
                real = made(ColdOaths::new, size);
                model = made(Model::new, size);
            }
            int[] args = new int[count];
            for (int a = 0, rest = k; a < count; a++, rest /= tried.length) {
                args[a] = tried[rest % tried.length];
            }
            String told = "day of size " + size + ", " + Call.told(call, args);
            due.is(told, Call.of(real, call, args), Call.of(model, call, args));
            due.is(told + ", then fault()", real.fault(), model.fault());
        }
    }

    /** Size 0: a new object; 1: the least day; 2: all that there can be. Some sheets have something. */
    private static <T> T made(Supplier<T> maker, int size) {
        T x = maker.get();
        if (size > 0) {
            String text = size == 1 ? "o5;b3" : "o987650;p5;b3;d4;p0,010,121,232,304,033,211";
            row(x, 0, 0, text.chars().toArray());
            Call.of(x, "day", 0, 0, 0, text.length());
            row(x, 1, 1, 3, 0, 9, 4, 0, 10, 2, 11);
            row(x, 3, 0, 1, 2, 3);
            Call.of(x, "as", 0, 2);
        }
        for (int k = 0; size == 2 && k < 8; k++) {
            Call.of(x, "reading", k % 4, k % 6, k / 2 % 2);
        }
        return x;
    }

    private static void row(Object x, int sheet, int lane, int... cells) {
        Call.of(x, "sheet", sheet, lane, cells.length);
        for (int i = 0; i < cells.length; i++) {
            Call.of(x, "put", sheet, i, cells[i]);
        }
    }
}
