import java.util.ArrayList;
import java.util.List;
import java.util.function.BiConsumer;
import java.util.function.Supplier;

/**
 * All that calls can bring to light of a network: what its readers tell, what its setters answer, how many
 * legs its cells take, and how it goes on. Each look has a network of its own, so that none has more than
 * the 512 calls for which the document stands.
 */
final class Probe {
    private static final List<BiConsumer<MeshBiller, StringBuilder>> LOOKS = new ArrayList<>();

    static {
        LOOKS.add(Probe::phones);
        LOOKS.add(Probe::wallets);
        LOOKS.add(Probe::bundles);
        LOOKS.add(Probe::calls);
        LOOKS.add(Probe::settings);
        LOOKS.add(Probe::settingsOfPhones);
        LOOKS.add(Probe::settingsOfPhonesBehindCalls);
        LOOKS.add(Probe::nextNumbers);
        for (String name : new String[] {"stateOf", "seconds", "charged", "covered", "ratedByEvents", "tag", "seal"}) {
            LOOKS.add((net, told) -> all(net, told, name));
        }
        LOOKS.add(Probe::onward);
        LOOKS.add(Probe::onwardMeteredByCaps);
        for (int cell = 0; cell < 8; cell++) {
            int looked = cell;
            LOOKS.add((net, told) -> openChannels(net, told, looked));
            LOOKS.add((net, told) -> channels(net, told, looked));
        }
    }

    private Probe() {
    }

    static String of(Supplier<MeshBiller> scene) {
        StringBuilder told = new StringBuilder();
        for (BiConsumer<MeshBiller, StringBuilder> look : LOOKS) {
            look.accept(scene.get(), told);
            told.append(" / ");
        }
        return told.toString();
    }

    private static String tell(MeshBiller net, StringBuilder told, String name, int... arguments) {
        String[] answer = new String[1];
        String thrown = Check.thrownBy(net, x -> answer[0] = "" + Face.call(x, name, arguments));
        if (!thrown.equals("nothing")) {
            answer[0] = thrown;
        }
        told.append(' ').append(answer[0]);
        return answer[0];
    }

    /** A reader's answers from the number 0 on, up to the first that it refuses. */
    private static void all(MeshBiller net, StringBuilder told, String name) {
        int number = 0;
        while (!tell(net, told, name, number).endsWith("Exception")) {
            number++;
        }
    }

    private static void phones(MeshBiller net, StringBuilder told) {
        for (String name : new String[] {"cellOf", "rateOf", "legOf", "sliceOf"}) {
            all(net, told, name);
        }
    }

    private static void wallets(MeshBiller net, StringBuilder told) {
        tell(net, told, "now");
        tell(net, told, "legs");
        for (String name : new String[] {"free", "aside", "spent"}) {
            all(net, told, name);
        }
    }

    private static void bundles(MeshBiller net, StringBuilder told) {
        all(net, told, "left");
    }

    private static void calls(MeshBiller net, StringBuilder told) {
        all(net, told, "parties");
        all(net, told, "stamp");
    }

    private static void settings(MeshBiller net, StringBuilder told) {
        tell(net, told, "setSlice", 7);
        for (int zone = 0; zone < 3; zone++) {
            tell(net, told, "setRate", zone, 1, 5);
            tell(net, told, "setRate", zone, 0, 5);
        }
        for (int cell = 0; cell < 8; cell++) {
            tell(net, told, "setZone", cell, 0);
        }
    }

    private static void settingsOfPhones(MeshBiller net, StringBuilder told) {
        for (int phone = 0; phone < 10; phone++) {
            tell(net, told, "setCap", phone, 5);
            tell(net, told, "setWallet", phone, 0);
        }
    }

    /** A phone that is in a call hides its wallet until it has left. */
    private static void settingsOfPhonesBehindCalls(MeshBiller net, StringBuilder told) {
        for (int phone = 0; phone < 10; phone++) {
            tell(net, told, "leave", phone);
        }
        settingsOfPhones(net, told);
    }

    private static void nextNumbers(MeshBiller net, StringBuilder told) {
        tell(net, told, "buy", 0, 1, 1, 1, 0, 0);
        tell(net, told, "begin", 8, 9, 1);
        tell(net, told, "join", 7, 0, 1);
    }

    private static void onward(MeshBiller net, StringBuilder told) {
        for (int seconds : new int[] {1, 3, 17, 60, 500, 500, 500, 500, 500}) {
            tell(net, told, "pass", seconds);
            wallets(net, told);
        }
        all(net, told, "sliceOf");
        bundles(net, told);
    }

    private static void onwardMeteredByCaps(MeshBiller net, StringBuilder told) {
        for (int phone = 0; phone < 10; phone++) {
            tell(net, told, "setCap", phone, 777);
        }
        tell(net, told, "pass", 77);
        wallets(net, told);
        tell(net, told, "setSlice", 20);
        tell(net, told, "begin", 9, 8, 1);
        all(net, told, "sliceOf");
    }

    /** No leg costs anything any more, and the idle phones are brought to a cell. */
    private static List<Integer> gatherIdle(MeshBiller net, int cell) {
        List<Integer> idle = new ArrayList<>();
        for (int zone = 0; zone < 3; zone++) {
            net.setRate(zone, true, 0);
            net.setRate(zone, false, 0);
        }
        for (int phone = 0; phone < 10; phone++) {
            if (net.legOf(phone) == MeshBiller.NONE) {
                net.move(phone, cell);
                idle.add(phone);
            }
        }
        return idle;
    }

    /** Hosts stand in a cell that has channels for all; as many others as can begin are in the cell looked at. */
    private static void openChannels(MeshBiller net, StringBuilder told, int cell) {
        List<Integer> idle = gatherIdle(net, cell);
        int apart = (cell + 4) % 8;
        net.setChannels(apart, 10, 0);
        for (int i = 0; i + 1 < idle.size(); i += 4) {
            net.move(idle.get(i), apart);
            String call = tell(net, told, "begin", idle.get(i), idle.get(i + 1), 0);
            for (int j = i + 2; j < Math.min(i + 4, idle.size()) && !call.endsWith("Exception"); j++) {
                tell(net, told, "join", idle.get(j), Integer.parseInt(call), 0);
            }
        }
    }

    /** Legs that begin in the next cell come to the cell looked at, one after the other. */
    private static void channels(MeshBiller net, StringBuilder told, int cell) {
        int next = (cell + 1) % 8;
        List<Integer> idle = gatherIdle(net, next);
        net.setChannels(next, 10, 0);
        for (int i = 0; i + 1 < idle.size(); i += 2) {
            tell(net, told, "begin", idle.get(i), idle.get(i + 1), 0);
        }
        for (int phone : idle) {
            tell(net, told, "move", phone, cell);
        }
    }
}
