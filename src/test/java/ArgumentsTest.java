import java.lang.reflect.InvocationTargetException;
import java.lang.reflect.Method;
import java.lang.reflect.Modifier;
import java.util.Arrays;

/**
 * Each call with each row of arguments out of a list of edges, in several states: it answers as the Model does and never
 * throws. An object hears fewer than 512 calls.
 */
public final class ArgumentsTest {
    private static final int[] FOR_ONE = {Integer.MIN_VALUE, Integer.MIN_VALUE + 1, -1001, -100, -3, -2, -1, 0, 1, 2, 3, 4, 5, 6, 7, 8, 9,
        10, 11, 19, 20, 21, 29, 30, 31, 32, 33, 34, 35, 36, 59, 60, 61, 62, 63, 64, 98, 99, 100, 101, 199, 200, 201, 512, 998, 999,
        1000, 1001, 1579, 1580, 1581, 1599, 1600, 1601, 9998, 9999, 10000, 10001, 65535, 65536, 99999, 100000, 100001,
        Integer.MAX_VALUE - 1, Integer.MAX_VALUE};
    private static final int[] FOR_TWO = {Integer.MIN_VALUE, -2, -1, 0, 1, 2, 3, 4, 5, 6, 7, 8, 9, 10, 20, 21, 60, 61, 99, 100,
        Integer.MAX_VALUE};
    private static final int[] FOR_THREE = {Integer.MIN_VALUE, -1, 0, 1, 2, 3, 4, 5, 7, 8, 20, 21, 31, 32, 35, 36, 60, 61, Integer.MAX_VALUE};
    private static final int[] FOR_FOUR = {Integer.MIN_VALUE, -1, 0, 1, 2, 4, 5, 7, 8, Integer.MAX_VALUE};
    private static final int CALLS = 400;

    private static long asked;
    private static int wrong;

    private StoneCensus x;
    private Model m;
    private int calls;
    private final int state;

    private ArgumentsTest(int state) {
        this.state = state;
        begin();
    }

    private void tell(String text) {
        for (int from = 0; from < text.length(); from += 20) {
            int[] f = Texts.five(text, from);
            x.feed(f[0], f[1], f[2], f[3], f[4]);
            m.feed(f);
        }
        x.end(text.length());
        m.end(text.length());
        x.province();
        m.province();
    }

    /** State 0: a new object; 1: one house; 2: three houses and a past; 3: five houses with all that can be. */
    private void begin() {
        x = new StoneCensus();
        m = new Model();
        calls = 0;
        if (state == 1) {
            tell("house a at 60 heads 7 jam 9 habit 9;");
        } else if (state == 2) {
            tell("house a at 3 heads 6 jam 2;house b at 1 heads 1 habit 1;house c at 9 heads 0;draw 123;grow (heads>0);");
            x.summer();
            m.summer();
            x.image(1);
            m.image(1);
            x.hide(0, 5);
            m.hide(0, 5);
            x.report(3, 4, 4);
            m.report(3, 4, 4);
            x.later(7);
            m.later(7);
            x.feed(1, 2, 3, 4, 5);
            m.feed(1, 2, 3, 4, 5);
        } else if (state == 3) {
            tell("house a at 60 heads 7;house b at 60 heads 7;house c at 0 heads 7;house d at 9 heads 7;house e at 8 heads 7;spit 99;"
                + "tax 999;draw 999;");
            for (int i = 0; i < 41; i++) {
                x.summer();
                m.summer();
            }
            for (int i = 0; i < 30; i++) {
                x.report(i + 1, 1, 34);
                m.report(i + 1, 1, 34);
            }
            x.untell(3);
            m.untell(3);
        }
    }

    private static int[] edgesFor(int arguments) {
        switch (arguments) {
            case 1: return FOR_ONE;
            case 2: return FOR_TWO;
            case 3: return FOR_THREE;
            default: return FOR_FOUR;
        }
    }

    private static Object answerOf(Method method, Object whom, Object[] with) throws IllegalAccessException {
        try {
            return method.invoke(whom, with);
        } catch (InvocationTargetException thrown) {
            return thrown.getCause();
        }
    }

    private void ask(Method method, Method model, Object[] with) throws IllegalAccessException {
        if (calls > CALLS) {
            begin();
        }
        calls += 2;
        asked++;
        Object got = answerOf(method, x, with);
        Object want = answerOf(model, m, with);
        if (!want.equals(got) || x.about(9) != m.about(9)) {
            wrong++;
            System.out.println("state " + state + ": " + method.getName() + Arrays.toString(with) + " answered " + got + ", due is " + want);
        }
    }

    private void askAll(Method method, Method model) throws IllegalAccessException {
        int n = method.getParameterCount();
        int[] edges = edgesFor(n);
        int rows = 1;
        for (int i = 0; i < n; i++) {
            rows *= edges.length;
        }
        for (int row = 0; row < rows && wrong < 20; row++) {
            Object[] with = new Object[n];
            int rest = row;
            for (int i = 0; i < n; i++) {
                with[i] = edges[rest % edges.length];
                rest /= edges.length;
            }
            ask(method, model, with);
        }
    }

    private static Method modelOf(Method method) throws NoSuchMethodException {
        Method model = Model.class.getDeclaredMethod(method.getName(), method.getParameterTypes());
        model.setAccessible(true);
        return model;
    }

    /** With five houses the Model goes through all rows at each of these. */
    private boolean isTooSlow(Method method) {
        return state == 3 && "truths range liars knock tells odds chase leave".contains(method.getName());
    }

    private void run() throws ReflectiveOperationException {
        for (Method method : StoneCensus.class.getDeclaredMethods()) {
            boolean open = Modifier.isPublic(method.getModifiers()) && !method.getName().equals("feed");
            if (open && !isTooSlow(method)) {
                begin();
                askAll(method, modelOf(method));
            }
        }
    }

    /** Those that are too slow to be compared with five houses: that they throw nothing. */
    private static void neverThrown() throws ReflectiveOperationException {
        ArgumentsTest five = new ArgumentsTest(3);
        for (Method method : StoneCensus.class.getDeclaredMethods()) {
            if (Modifier.isPublic(method.getModifiers()) && five.isTooSlow(method)) {
                int[] edges = edgesFor(method.getParameterCount());
                for (int i = 0; i < edges.length; i++) {
                    Object[] with = new Object[method.getParameterCount()];
                    for (int j = 0; j < with.length; j++) {
                        with[j] = edges[(i + 3 * j) % edges.length];
                    }
                    asked++;
                    Object got = answerOf(method, five.x, with);
                    if (got instanceof Throwable) {
                        wrong++;
                        System.out.println(method.getName() + Arrays.toString(with) + " threw " + got);
                    }
                }
            }
        }
    }

    public static void main(String[] args) throws ReflectiveOperationException {
        for (int state = 0; state <= 3; state++) {
            new ArgumentsTest(state).run();
        }
        neverThrown();
        System.out.println(asked + " answers compared, " + wrong + " wrong");
        if (wrong != 0) {
            System.exit(1);
        }
    }
}
