import java.lang.reflect.Method;
import java.util.TreeMap;
import java.util.function.Consumer;
import java.util.function.Supplier;

/** Counts the answers that are not due; a test ends with finish(). */
final class Check {
    static final Class<IndexOutOfBoundsException> INDEX = IndexOutOfBoundsException.class;
    static final Class<IllegalArgumentException> ARGUMENT = IllegalArgumentException.class;
    static final Class<IllegalStateException> STATE = IllegalStateException.class;

    private static int wrong = 0;
    private static int looked = 0;
    /** The test that runs, as a sign ahead of what it tells. */
    private static String test = "";

    private Check() {
    }

    static void due(String what, long got, long want) {
        due(what, "" + got, "" + want);
    }

    static void due(String what, boolean got, boolean want) {
        due(what, "" + got, "" + want);
    }

    static void due(String what, String got, String want) {
        looked++;
        if (!got.equals(want)) {
            wrong++;
            System.out.println(test + what + " answered " + got + ", due is " + want);
        }
    }

    static void holds(String what, boolean isSo) {
        due(what, isSo, true);
    }

    /** A call of the face on a network, with one of its arguments left open. */
    interface Argument {
        void call(MeshBiller net, int value);
    }

    /**
     * Runs every test of a class, by name: each static method without parameters that is called after a
     * promise or a term. So none can be forgotten in a list, and each is told by its name if it fails.
     */
    static void runTests(Class<?> tests) {
        TreeMap<String, Method> byName = new TreeMap<>();
        for (Method method : tests.getDeclaredMethods()) {
            if (method.getParameterCount() == 0 && method.getName().matches("(promises?|term)[0-9A-Z].*")) {
                byName.put(method.getName(), method);
            }
        }
        holds("a class of tests", !byName.isEmpty());
        for (Method method : byName.values()) {
            test = method.getName() + ": ";
            try {
                method.setAccessible(true);
                method.invoke(null);
            } catch (ReflectiveOperationException e) {
                due("the test", "threw " + e.getCause(), "no exception");
            }
        }
        test = "";
        finish();
    }

    /** Makes the scene, lets the call throw, and looks that it throws just this and changes nothing. */
    static void refuses(String what, Class<?> want, Supplier<MeshBiller> scene, Consumer<MeshBiller> call) {
        due(what, thrownBy(scene.get(), call), want.getSimpleName());
        Supplier<MeshBiller> refused = () -> {
            MeshBiller net = scene.get();
            thrownBy(net, call);
            return net;
        };
        due(what + ": all that shows, behind it", Probe.of(refused), Probe.of(scene));
    }

    /** The least and the most are taken; one below, one above, and what is far off are refused. */
    static void range(String what, Supplier<MeshBiller> scene, Class<?> refusal, int least, int most, Argument of) {
        due(what + " " + least, thrownBy(scene.get(), x -> of.call(x, least)), "nothing");
        due(what + " " + most, thrownBy(scene.get(), x -> of.call(x, most)), "nothing");
        for (int value : new int[] {least - 1, most + 1, Integer.MIN_VALUE, Integer.MAX_VALUE}) {
            refuses(what + " " + value, refusal, scene, x -> of.call(x, value));
        }
    }

    static String thrownBy(MeshBiller net, Consumer<MeshBiller> call) {
        try {
            call.accept(net);
        } catch (RuntimeException e) {
            return isThrownByTheClass(e) ? e.getClass().getSimpleName() : e + " of the library or the machine";
        }
        return "nothing";
    }

    /** A list throws IndexOutOfBoundsException by itself: the class must have looked ahead of that. */
    static boolean isThrownByTheClass(RuntimeException e) {
        StackTraceElement[] trace = e.getStackTrace();
        return trace.length > 0 && trace[0].getClassName().startsWith("MeshBiller") && e.getMessage() != null
            && !e.getMessage().contains("out of bounds for");
    }

    static String lineOf(MeshBiller net, int leg) {
        StringBuilder line = new StringBuilder();
        for (int place = 0; net.lineAt(leg, place) != MeshBiller.NONE; place++) {
            line.append((char) net.lineAt(leg, place));
        }
        return line.toString();
    }

    static void passLong(MeshBiller net, int seconds) {
        for (int rest = seconds; rest > 0; rest -= 500) {
            net.pass(Math.min(500, rest));
        }
    }

    static void finish() {
        System.out.println(wrong == 0 ? looked + " answers are as due" : wrong + " answers are not as due");
        if (wrong != 0) {
            System.exit(1);
        }
    }
}
