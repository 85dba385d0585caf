import java.util.ArrayList;
import java.util.List;
import java.util.function.Consumer;
import java.util.function.Supplier;

/** Counts the answers that are not due; a test ends with finish(). */
final class Check {
    static final Class<IndexOutOfBoundsException> INDEX = IndexOutOfBoundsException.class;
    static final Class<IllegalArgumentException> ARGUMENT = IllegalArgumentException.class;
    static final Class<IllegalStateException> STATE = IllegalStateException.class;

    private static int wrong = 0;
    private static int looked = 0;

    private Check() {
    }

    static void due(String what, long got, long want) {
        looked++;
        if (got != want) {
            wrong++;
            System.out.println(what + " answered " + got + ", due is " + want);
        }
    }

    static void due(String what, boolean got, boolean want) {
        due(what, got ? 1 : 0, want ? 1 : 0);
    }

    static void due(String what, String got, String want) {
        looked++;
        if (!got.equals(want)) {
            wrong++;
            System.out.println(what + " answered " + got + ", due is " + want);
        }
    }

    static void holds(String what, boolean isSo) {
        due(what, isSo, true);
    }

    /** Makes the scene, lets the call throw, and looks that it throws just this and changes nothing that shows. */
    static void refuses(String what, Class<?> want, Supplier<MeshBiller> scene, Consumer<MeshBiller> call) {
        MeshBiller net = scene.get();
        String before = shown(net);
        due(what, thrownBy(net, call), want.getSimpleName());
        due(what + ": all that shows, behind it", shown(net), before);
    }

    static String thrownBy(MeshBiller net, Consumer<MeshBiller> call) {
        try {
            call.accept(net);
        } catch (RuntimeException e) {
            return isThrownByTheClass(e) ? e.getClass().getSimpleName() : e + " of the library or the machine";
        }
        return "nothing";
    }

    /** A list throws IndexOutOfBoundsException by itself: the class must have looked ahead of that. */
    static boolean isThrownByTheClass(RuntimeException e) {
        StackTraceElement[] trace = e.getStackTrace();
        return trace.length > 0 && trace[0].getClassName().startsWith("MeshBiller") && e.getMessage() != null
            && !e.getMessage().contains("out of bounds for");
    }

    /** All that the readers tell of a network. */
    static String shown(MeshBiller net) {
        List<Long> all = new ArrayList<>();
        all.add((long) net.now());
        all.add((long) net.legs());
        for (int phone = 0; phone < 10; phone++) {
            all.add((long) net.cellOf(phone));
            all.add((long) net.rateOf(phone));
            all.add((long) net.legOf(phone));
            all.add((long) net.sliceOf(phone));
        }
        for (int wallet = 0; wallet < 4; wallet++) {
            all.add((long) net.free(wallet));
            all.add((long) net.aside(wallet));
            all.add((long) net.spent(wallet));
        }
        for (int leg = 0; leg < net.legs(); leg++) {
            all.add((long) net.stateOf(leg));
            all.add((long) net.seconds(leg));
            all.add((long) net.charged(leg) + net.covered(leg));
            all.add((long) net.ratedByEvents(leg));
            all.add((long) net.tag(leg));
            all.add((long) net.seal(leg));
        }
        return all.toString() + bundlesShown(net) + callsShown(net);
    }

    private static String bundlesShown(MeshBiller net) {
        StringBuilder all = new StringBuilder(" bundles");
        try {
            for (int bundle = 0; ; bundle++) {
                all.append(' ').append(net.left(bundle));
            }
        } catch (IndexOutOfBoundsException behindTheLast) {
            return all.toString();
        }
    }

    private static String callsShown(MeshBiller net) {
        StringBuilder all = new StringBuilder(" calls");
        try {
            for (int call = 0; ; call++) {
                all.append(' ').append(net.parties(call)).append('/').append(net.stamp(call));
            }
        } catch (IndexOutOfBoundsException behindTheLast) {
            return all.toString();
        }
    }

    static String lineOf(MeshBiller net, int leg) {
        StringBuilder line = new StringBuilder();
        for (int place = 0; net.lineAt(leg, place) != MeshBiller.NONE; place++) {
            line.append((char) net.lineAt(leg, place));
        }
        return line.toString();
    }

    static void passLong(MeshBiller net, int seconds) {
        for (int rest = seconds; rest > 0; rest -= 500) {
            net.pass(Math.min(500, rest));
        }
    }

    static void finish() {
        System.out.println(wrong == 0 ? looked + " answers are as due" : wrong + " answers are not as due");
        if (wrong != 0) {
            System.exit(1);
        }
    }
}
