/** Networks from which tests set out. */
final class Scenes {
    static final int MONEY = 1000000;

    private Scenes() {
    }

    static MeshBiller empty() {
        return new MeshBiller();
    }

    static MeshBiller rich() {
        MeshBiller net = new MeshBiller();
        for (int wallet = 0; wallet < 4; wallet++) {
            net.top(wallet, MONEY);
        }
        return net;
    }

    /** The legs 0 and 1, of the phones 0 and 1, go on in the call 0. */
    static MeshBiller inCall() {
        MeshBiller net = rich();
        net.begin(0, 1, false);
        return net;
    }

    /** The phones 0 to 3 are in the call 0. */
    static MeshBiller inFullCall() {
        MeshBiller net = inCall();
        net.join(2, 0, false);
        net.join(3, 0, false);
        return net;
    }

    static MeshBiller behindCall() {
        MeshBiller net = inCall();
        net.leave(0);
        return net;
    }

    static MeshBiller withCalls(int calls) {
        MeshBiller net = rich();
        for (int i = 0; i < calls; i++) {
            net.begin(0, 1, false);
            net.leave(0);
        }
        return net;
    }

    /** The call 0 of the phones 0 and 1 goes on, and so many legs of the phone 2 are over. */
    static MeshBiller withLegs(int legs) {
        MeshBiller net = inCall();
        for (int i = 2; i < legs; i++) {
            net.join(2, 0, false);
            net.leave(2);
        }
        return net;
    }

    static MeshBiller withBundles(int bundles) {
        MeshBiller net = rich();
        for (int i = 0; i < bundles; i++) {
            net.buy(i % 4, 7, 10, 1, 0, 0);
        }
        return net;
    }

    static MeshBiller at(int second) {
        MeshBiller net = rich();
        Check.passLong(net, second);
        return net;
    }

    /** The phone 0, which pays alone, in a call with the phone 9, which costs nothing. */
    static MeshBiller withMoney(int money) {
        MeshBiller net = new MeshBiller();
        net.setRate(1, false, 0);
        if (money > 0) {
            net.top(0, money);
        }
        return net;
    }
}
