import java.lang.reflect.InvocationTargetException;
import java.lang.reflect.Method;
import java.lang.reflect.Modifier;
import java.util.Arrays;

/** LANGUAGE.md's rule 7: no call throws, for any arguments in any state; and each answers a number that the document knows. */
public final class AnyArgumentsTest {
    private static final int[] MANY = {
        Integer.MIN_VALUE, Integer.MIN_VALUE + 1, -1000000001, -129, -64, -8, -2, -1, 0, 1, 2, 3, 4, 5, 6, 7, 8, 9, 10, 11, 12, 16, 32, 39, 40,
        41, 59, 60, 61, 64, 99, 100, 120, 255, 256, 2048, 4095, 4096, 9999, 10000, 65536, Integer.MAX_VALUE - 1, Integer.MAX_VALUE
    };
    private static final int[] FEW = {Integer.MIN_VALUE, -1, 0, 1, 2, 3, 4, 40, 41, Integer.MAX_VALUE};
    private static final int CALLS = 40;
    private static final int LEAST = -121;
    private static final int MOST = 59994;

    private final Twins.Act state;
    private final Method call;
    private HeadHats x;
    private int calls = 0;

    private AnyArgumentsTest(Twins.Act state, Method call) {
        this.state = state;
        this.call = call;
        x = Twins.made(state);
    }

    public static void main(String[] args) throws IllegalAccessException {
        Twins.Act[] states = {Twins.EMPTY, Twins.SOME, Twins.FULL, Twins.LATE};
        for (Method call : HeadHats.class.getDeclaredMethods()) {
            if (Modifier.isPublic(call.getModifiers())) {
                for (Twins.Act state : states) {
                    new AnyArgumentsTest(state, call).sweep(new int[call.getParameterCount()], 0);
                }
            }
        }
        Due.end();
    }

    private void sweep(int[] arguments, int place) throws IllegalAccessException {
        if (place == arguments.length) {
            answer(arguments);
            return;
        }
        for (int v : arguments.length > 2 ? FEW : MANY) {
            arguments[place] = v;
            sweep(arguments, place + 1);
        }
    }

    private void answer(int[] arguments) throws IllegalAccessException {
        if (calls == CALLS) {
            x = Twins.made(state);
            calls = 0;
        }
        calls++;
        Object[] given = new Object[arguments.length];
        for (int i = 0; i < given.length; i++) {
            if (call.getParameterTypes()[i] == long.class) {
                given[i] = (long) arguments[i];
            } else {
                given[i] = arguments[i];
            }
        }
        String name = call.getName() + Arrays.toString(arguments);
        try {
            long got = ((Number) call.invoke(x, given)).longValue();
            boolean isFinding = got <= Due.BEYOND && got >= Due.SIZE;
            // What was written to a sheet may be any number.
            Due.dueTrue(name + " answers " + got, isFinding || got >= LEAST && got <= MOST || call.getName().equals("write"));
        } catch (InvocationTargetException e) {
            Due.dueTrue(name + " throws " + e.getCause(), false);
        }
    }
}
