import java.lang.reflect.InvocationTargetException;
import java.lang.reflect.Method;
import java.lang.reflect.Modifier;
import java.util.Arrays;
import java.util.Comparator;

/** Boundary cases one by one, and whether a call that is refused changes anything. */
final class Edge {
    static final long REFUSED = 0;
    static final long DONE = 1;
    static final long NONE = -1;
    private static final long THROWN = 1L << 40;
    static final long ARGUMENT = THROWN + Due.ILLEGAL_ARGUMENT;
    static final long STATE = THROWN + Due.ILLEGAL_STATE;
    static final long BOUNDS = THROWN + Due.OUT_OF_BOUNDS;

    interface Calls {
        void on(TripleHouse x);
    }

    interface Question {
        long to(TripleHouse x);
    }

    private Edge() {
    }

    /** Each method of a test class without parameters is one boundary case: none is forgotten. */
    static void all(Class<?> test) throws IllegalAccessException {
        Method[] methods = test.getDeclaredMethods();
        Arrays.sort(methods, Comparator.comparing(Method::getName));
        int cases = 0;
        for (Method m : methods) {
            if (isCase(m)) {
                cases++;
                Due.within(m.getName());
                check(m);
            }
        }
        Due.within(test.getName());
        Due.yes("boundary cases are there", cases > 0);
        Due.end();
    }

    private static boolean isCase(Method m) {
        return Modifier.isStatic(m.getModifiers()) && !Modifier.isPrivate(m.getModifiers())
                && !m.isSynthetic() && m.getParameterCount() == 0;
    }

    private static void check(Method m) throws IllegalAccessException {
        try {
            m.invoke(null);
        } catch (InvocationTargetException e) {
            Due.is("a call threw " + e.getCause(), 1, 0);
        }
    }

    /** A new object in a state. */
    static TripleHouse after(Calls state) {
        TripleHouse x = new TripleHouse();
        state.on(x);
        return x;
    }

    static long num(boolean yes) {
        return yes ? DONE : REFUSED;
    }

    /** The answer, or which exception was thrown. */
    static long answer(TripleHouse x, Question question) {
        try {
            return question.to(x);
        } catch (RuntimeException e) {
            return THROWN + Due.numberOf(e);
        }
    }

    /** In a state a call answers, or throws, what is due, and leaves all as it was. */
    static void refused(Calls state, Question call, long want) {
        Due.is("the refused call", answer(after(state), call), want);
        Calls withCall = y -> {
            state.on(y);
            answer(y, call);
        };
        Due.yes("the refused call changes nothing", Look.after(state).equals(Look.after(withCall)));
    }

    /** In a state two runs of calls come to the same. */
    static void same(Calls state, Calls one, Calls other) {
        String after = Look.after(x -> {
            state.on(x);
            one.on(x);
        });
        String afterOther = Look.after(x -> {
            state.on(x);
            other.on(x);
        });
        Due.yes("both come to the same", after.equals(afterOther));
    }

    /** What refused says, in a new object and in busy ones. */
    static void refusedEverywhere(Question call, long want) {
        refused(States::fresh, call, want);
        refused(States::busy, call, want);
        refused(States::full, call, want);
    }
}
