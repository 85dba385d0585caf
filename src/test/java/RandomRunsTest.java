import java.util.Arrays;
import java.util.Random;

/**
 * Drawn runs of at most 512 calls on the class and on the plain model side by side: each call must answer or
 * throw the same. A call that throws and yet changes something shows in what later calls answer. The seeds
 * are written out, so each run is the same each time.
 */
public final class RandomRunsTest {
    private static final int RUNS = 280, CALLS = 512;
    private static final String[] READERS = {"free", "aside", "spent", "left", "now", "cellOf", "rateOf", "legOf",
        "sliceOf", "parties", "legs", "stateOf", "seconds", "charged", "covered", "ratedByEvents", "tag", "seal",
        "stamp", "lineAt"};
    private static final String[] CHANGERS = {"setChannels", "setRate", "setSlice", "setCap", "setWallet", "top",
        "give", "buy", "begin", "join", "leave", "move", "pass", "begin", "join", "move", "pass", "pass"};

    private final Random random;
    private final int flavour;
    private final MeshBiller net = new MeshBiller();
    private final PlainModel model = new PlainModel();
    private int legs = 0, calls = 0, bundles = 0;

    private RandomRunsTest(int seed) {
        random = new Random(seed);
        flavour = seed % 7;
    }

    public static void main(String[] args) {
        int[] states = new int[4];
        for (int seed = 0; seed < RUNS; seed++) {
            RandomRunsTest run = new RandomRunsTest(seed);
            if (!run.run(seed)) {
                Check.holds("run " + seed, false);
            }
            for (int leg = 0; leg < run.legs; leg++) {
                states[(int) run.model.call("stateOf", new int[] {leg})]++;
            }
        }
        for (int state = 0; state < 4; state++) {
            Check.holds("the drawn runs reach the state " + state + " of legs often", states[state] > 50);
        }
        Check.finish();
    }

    private boolean run(int seed) {
        int made = 0;
        while (made < CALLS) {
            String name = made < 20 ? opening() : next();
            int[] a = random.nextInt(20) == 0 ? odd(name) : arguments(name);
            String got = outcome(name, a, true);
            String want = outcome(name, a, false);
            made++;
            if (!got.equals(want)) {
                System.out.println("run " + seed + ", call " + made + ": " + name + Arrays.toString(a) + " answered "
                        + got + ", due is " + want);
                return false;
            }
            if (!got.startsWith("throws")) {
                count(name);
            }
        }
        return true;
    }

    private void count(String name) {
        if (name.equals("begin")) {
            calls++;
            legs += 2;
        } else if (name.equals("join")) {
            legs++;
        } else if (name.equals("buy")) {
            bundles++;
        }
    }

    private String outcome(String name, int[] a, boolean isNet) {
        try {
            return "" + (isNet ? Face.call(net, name, a) : model.call(name, a));
        } catch (IndexOutOfBoundsException e) {
            return !isNet || Check.isThrownByTheClass(e) ? "throws index" : "throws " + e;
        } catch (IllegalArgumentException e) {
            return "throws argument";
        } catch (IllegalStateException e) {
            return "throws state";
        }
    }

    private String opening() {
        String[] first = {"setZone", "top", "setChannels", "top", "setRate", "buy", "setCap", "setSlice", "setWallet"};
        return first[random.nextInt(first.length)];
    }

    private String next() {
        if (flavour == 6 && random.nextInt(3) == 0) {
            return "move";
        }
        int share = flavour == 5 ? 2 : 3;
        return random.nextInt(5) < share ? CHANGERS[random.nextInt(CHANGERS.length)]
                : READERS[random.nextInt(READERS.length)];
    }

    private int upTo(int most) {
        return random.nextInt(most + 1);
    }

    private int amount() {
        return 1 + random.nextInt(flavour < 2 ? 300 : flavour > 4 ? 60000 : 5000);
    }

    private int[] arguments(String name) {
        switch (name) {
            case "setZone": return new int[] {upTo(7), upTo(2)};
            case "setChannels":
                int channels = upTo(flavour == 2 ? 3 : 10);
                return new int[] {upTo(7), channels, random.nextInt(3) == 0 ? upTo(channels) : 0};
            case "setRate": return new int[] {upTo(2), upTo(1), random.nextInt(4) == 0 ? 0 : upTo(60)};
            case "setSlice": return new int[] {1 + random.nextInt(random.nextInt(3) == 0 ? 100 : 12)};
            case "setCap": return new int[] {upTo(9), random.nextInt(3) == 0 ? -1 : upTo(2500)};
            case "setWallet": return new int[] {upTo(9), upTo(3)};
            case "top": return new int[] {upTo(3), amount()};
            case "give": return new int[] {upTo(3), upTo(3), amount()};
            case "buy": return new int[] {upTo(3), 1 + random.nextInt(7), 1 + random.nextInt(flavour == 3 ? 300 : 40),
                1 + random.nextInt(3), upTo(2), upTo(50)};
            case "begin": return new int[] {upTo(9), upTo(9), upTo(1)};
            case "join": return new int[] {upTo(9), Math.max(0, calls - 1 - random.nextInt(3)), upTo(1)};
            case "leave": return new int[] {random.nextInt(2) == 0 ? upTo(9) : upTo(3)};
            case "move": return move();
            case "pass": return new int[] {1 + random.nextInt(flavour == 4 ? 500 : flavour == 6 ? 100 : random.nextInt(8) == 0 ? 200 : 15)};
            case "left": return new int[] {Math.max(0, upTo(Math.max(0, bundles - 1)))};
            case "parties", "stamp": return new int[] {upTo(Math.max(0, calls - 1))};
            case "stateOf", "seconds", "charged", "covered", "ratedByEvents", "tag", "seal":
                return new int[] {upTo(Math.max(0, legs - 1))};
            case "lineAt": return new int[] {upTo(Math.max(0, legs - 1)), upTo(16)};
            default: return new int[] {upTo(name.equals("cellOf") || name.endsWith("Of") ? 9 : 3)};
        }
    }

    private int[] move() {
        int phone = upTo(9);
        int from = (int) model.call("cellOf", new int[] {phone});
        return new int[] {phone, random.nextInt(flavour == 6 ? 40 : 5) == 0 ? upTo(7) : from + 7 + 2 * upTo(1) & 7};
    }

    /** Arguments of which one or more are at or beyond an edge. */
    private int[] odd(String name) {
        int[] edges = {-2, -1, 0, 1, 2, 3, 4, 7, 8, 9, 10, 11, 30, 31, 39, 40, 79, 80, 100, 101, 500, 501, 1000, 1001,
            5000, 5001, 1000000, 1000001, Integer.MAX_VALUE, Integer.MIN_VALUE};
        int[] a = arguments(name);
        for (int i = 0; i < a.length; i++) {
            boolean isBoolean = i == 2 && (name.equals("begin") || name.equals("join")) || i == 1 && name.equals("setRate");
            if (!isBoolean && random.nextInt(2) == 0) {
                a[i] = edges[random.nextInt(edges.length)];
            }
        }
        return a;
    }
}
