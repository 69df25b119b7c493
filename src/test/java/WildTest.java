import java.lang.reflect.Method;
import java.lang.reflect.Modifier;
import java.util.Arrays;

/** Every call with every mix of values at, beside and far beyond its bounds, in several states, answers as Model does. */
public final class WildTest {
    private static final int NONE = Integer.MIN_VALUE + 1;
    private static final int[] ONE = {Integer.MIN_VALUE, Integer.MIN_VALUE + 1, -50001, -10000, -9999, -256, -100, -13, -2, -1, 0, 1, 2, 3, 4,
        5, 6, 7, 8, 9, 10, 11, 12, 13, 20, 21, 25, 26, 31, 32, 33, 59, 60, 61, 63, 64, 98, 99, 100, 127, 128, 199, 200, 255, 256, 999, 1000, 9999,
        10000, 65536, Integer.MAX_VALUE - 1, Integer.MAX_VALUE};
    private static final int[] TWO = {Integer.MIN_VALUE, -10000, -2, -1, 0, 1, 2, 3, 4, 5, 6, 7, 9, 10, 12, 13, 32, 60, 61, 99, 100, Integer.MAX_VALUE};
    private static final int[] THREE = {Integer.MIN_VALUE, -10000, -9999, -1, 0, 1, 2, 3, 20, 21, 26, 60, 61, 99, 100, 9999, 10000, Integer.MAX_VALUE};
    private static final int[] FOUR = {Integer.MIN_VALUE, -10000, -1, 0, 1, 2, 3, 12, 25, 26, 9999, Integer.MAX_VALUE};
    private static final int[][] BY_PLACES = {{}, ONE, TWO, THREE, FOUR};
    private static final int CALLS_OF_AN_OBJECT = 512;

    private static final String FULL = "house;house;house;house;house;house;house;pan 0 1 9;spoon 1 0 9;pipe 2 3 9;shoe 3 2 9;cap 4 4 99"
        + ";pan 5 4 1;cap 0 2 9;want 0 0;want 1 1";
    private static final String[] STATES = {"", "house", FULL};

    private HookTies real;
    private Model model;
    private int left = 0;
    private static int asked = 0;

    public static void main(String[] args) throws Exception {
        Method[] all = HookTies.class.getDeclaredMethods();
        for (String state : STATES) {
            for (Method m : all) {
                if (Modifier.isPublic(m.getModifiers())) {
                    new WildTest().ask(m, state);
                }
            }
        }
        System.out.println(asked + " answers are as the model's");
    }

    private void ask(Method call, String state) throws Exception {
        Method same = Model.class.getDeclaredMethod(call.getName(), call.getParameterTypes());
        int places = call.getParameterCount();
        int[] values = BY_PLACES[places];
        int mixes = 1;
        for (int i = 0; i < places; i++) {
            mixes *= values.length;
        }
        for (int mix = 0; mix < mixes; mix++) {
            if (left == 0) {
                begin(state);
            }
            left--;
            Object[] given = new Object[places];
            int rest = mix;
            for (int i = 0; i < places; i++) {
                given[i] = values[rest % values.length];
                rest /= values.length;
            }
            int got = answer(call, real, given);
            int want = answer(same, model, given);
            asked++;
            if (got != want) {
                System.out.println("behind '" + state + "': " + call.getName() + Arrays.toString(given) + " answered "
                    + (got == NONE ? "nothing, but threw" : got) + ", the model says " + want);
                System.exit(1);
            }
        }
    }

    private static int answer(Method call, Object one, Object[] given) throws Exception {
        try {
            return (Integer) call.invoke(one, given);
        } catch (java.lang.reflect.InvocationTargetException e) {
            e.getCause().printStackTrace(System.out);
            return NONE;
        }
    }

    /** Behind the text a year has passed, and hooks hold one of each. */
    private void begin(String state) {
        real = new HookTies();
        model = new Model();
        for (int i = 0; i < state.length(); i++) {
            real.write(state.charAt(i));
            model.write(state.charAt(i));
        }
        real.commons();
        model.commons();
        real.year(1);
        model.year(1);
        real.hooks(0, 5);
        model.hooks(0, 5);
        for (int what = 0; what < 3; what++) {
            real.hang(0, 0, what, 0);
            model.hang(0, 0, what, 0);
        }
        left = CALLS_OF_AN_OBJECT - state.length() - 6;
    }
}
