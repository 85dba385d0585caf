/** Promises 8 to 14: money and bundles. */
public final class WalletsTest {
    public static void main(String[] args) {
        Check.runTests(WalletsTest.class);
    }

    private static MeshBiller rich() {
        MeshBiller net = new MeshBiller();
        net.top(0, 1000);
        net.top(1, 1000);
        net.buy(0, 1, 100, 1, 0, 0);
        return net;
    }

    private static MeshBiller withBundles(int count) {
        MeshBiller net = rich();
        for (int i = 1; i < count; i++) {
            net.buy(i % 4, 7, 1, 1, 0, 0);
        }
        return net;
    }

    private static void promise8Top() {
        MeshBiller net = new MeshBiller();
        Check.due("top(3, 1)", net.top(3, 1), 1);
        Check.due("top(3, 1000000)", net.top(3, 1000000), 1000001);
        Check.due("top(0, 7)", net.top(0, 7), 7);
        Check.due("the other wallets are as they were", net.free(1), 0);
        Check.refuses("top(-1, 1)", Check.INDEX, WalletsTest::rich, x -> x.top(-1, 1));
        Check.refuses("top(4, 0)", Check.INDEX, WalletsTest::rich, x -> x.top(4, 0));
        Check.refuses("top(0, 0)", Check.ARGUMENT, WalletsTest::rich, x -> x.top(0, 0));
        Check.refuses("top(0, 1000001)", Check.ARGUMENT, WalletsTest::rich, x -> x.top(0, 1000001));
        Check.refuses("top(0, -5)", Check.ARGUMENT, WalletsTest::rich, x -> x.top(0, -5));
    }

    private static void promise9Give() {
        MeshBiller net = rich();
        Check.due("give(0, 1, 300)", net.give(0, 1, 300), 700);
        Check.due("the other one has it", net.free(1), 1300);
        Check.due("give(0, 3, 1)", net.give(0, 3, 1), 699);
        Check.due("give(0, 3, 699) gives all", net.give(0, 3, 699), 0);
        Check.due("the other one has both", net.free(3), 700);
        net.begin(1, 5, false);
        Check.due("what is set aside can't be given", Check.thrownBy(net, x -> x.give(1, 0, 1300)),
                "IllegalStateException");
        Check.refuses("give(-1, 0, 1)", Check.INDEX, WalletsTest::rich, x -> x.give(-1, 0, 1));
        Check.refuses("give(0, -1, 1)", Check.INDEX, WalletsTest::rich, x -> x.give(0, -1, 1));
        Check.refuses("give(4, 4, 0)", Check.INDEX, WalletsTest::rich, x -> x.give(4, 4, 0));
        Check.refuses("give(0, 4, 0)", Check.INDEX, WalletsTest::rich, x -> x.give(0, 4, 0));
        Check.refuses("give(0, 0, 1)", Check.ARGUMENT, WalletsTest::rich, x -> x.give(0, 0, 1));
        Check.refuses("give(2, 2, 5000)", Check.ARGUMENT, WalletsTest::rich, x -> x.give(2, 2, 5000));
        Check.refuses("give(0, 1, 0)", Check.ARGUMENT, WalletsTest::rich, x -> x.give(0, 1, 0));
        Check.refuses("give(2, 1, 1000001)", Check.ARGUMENT, WalletsTest::rich, x -> x.give(2, 1, 1000001));
        Check.refuses("give(0, 1, 1001)", Check.STATE, WalletsTest::rich, x -> x.give(0, 1, 1001));
        MeshBiller million = new MeshBiller();
        million.top(0, 1000000);
        Check.due("give a million", million.give(0, 1, 1000000), 0);
    }

    private static void promise10Buy() {
        MeshBiller net = rich();
        Check.due("the second bundle", net.buy(1, 7, 5000, 30, 9, 1000), 1);
        Check.due("it is paid", net.free(1), 0);
        Check.due("the price is nothing that was charged", net.spent(1), 0);
        Check.due("for nothing", net.buy(1, 1, 1, 1, 0, 0), 2);
        Check.due("left of the second one", net.left(1), 5000);
        Check.due("left of the third one", net.left(2), 1);
        Check.refuses("buy of the wallet -1", Check.INDEX, WalletsTest::rich, x -> x.buy(-1, 1, 1, 1, 0, 0));
        Check.refuses("buy of the wallet 4", Check.INDEX, WalletsTest::rich, x -> x.buy(4, 0, 0, 0, -1, -1));
        Check.refuses("zones 0", Check.ARGUMENT, WalletsTest::rich, x -> x.buy(0, 0, 1, 1, 0, 0));
        Check.refuses("zones 8", Check.ARGUMENT, WalletsTest::rich, x -> x.buy(0, 8, 1, 1, 0, 0));
        Check.refuses("seconds 0", Check.ARGUMENT, WalletsTest::rich, x -> x.buy(0, 1, 0, 1, 0, 0));
        Check.refuses("seconds 5001", Check.ARGUMENT, WalletsTest::rich, x -> x.buy(0, 1, 5001, 1, 0, 0));
        Check.refuses("days 0", Check.ARGUMENT, WalletsTest::rich, x -> x.buy(0, 1, 1, 0, 0, 0));
        Check.refuses("days 31", Check.ARGUMENT, WalletsTest::rich, x -> x.buy(0, 1, 1, 31, 0, 0));
        Check.refuses("rank -1", Check.ARGUMENT, WalletsTest::rich, x -> x.buy(0, 1, 1, 1, -1, 0));
        Check.refuses("rank 10", Check.ARGUMENT, WalletsTest::rich, x -> x.buy(0, 1, 1, 1, 10, 0));
        Check.refuses("price -1", Check.ARGUMENT, WalletsTest::rich, x -> x.buy(0, 1, 1, 1, 0, -1));
        Check.refuses("price 1000001", Check.ARGUMENT, WalletsTest::rich, x -> x.buy(0, 1, 1, 1, 0, 1000001));
        Check.refuses("too dear", Check.STATE, WalletsTest::rich, x -> x.buy(0, 1, 1, 1, 0, 1001));
    }

    /** By rising ranks, then the earlier over, then the lower number. */
    private static void promise10OrderOfUse() {
        MeshBiller net = new MeshBiller();
        net.setSlice(100);
        net.buy(0, 1, 1, 3, 1, 0);
        net.buy(0, 1, 2, 2, 1, 0);
        net.buy(0, 7, 3, 2, 1, 0);
        net.buy(0, 1, 4, 9, 0, 0);
        net.buy(0, 6, 5, 1, 0, 0);
        net.buy(1, 7, 100, 1, 0, 0);
        net.begin(0, 1, false);
        Check.due("the lowest rank that covers the zone first", net.sliceOf(0), 4);
        Check.due("the bundle 3 is set aside", net.left(3), 0);
        net.pass(5);
        Check.due("of the same rank the earlier over, the lower number", net.sliceOf(0), 1);
        net.pass(2);
        Check.due("the next number", net.sliceOf(0), 2);
        net.pass(3);
        Check.due("at last the one that is over last", net.left(0), 0);
        Check.due("another zone's bundle is left", net.left(4), 5);
        Check.due("then none is left, and no money", net.pass(1), 1);
        Check.due("covered 10 seconds", net.covered(0), 100);
        Check.due("charged nothing", net.charged(0), 0);
        net.buy(0, 1, 7, 5, 3, 0);
        net.buy(0, 1, 8, 4, 3, 0);
        net.begin(0, 1, false);
        Check.due("a bundle bought later that is over earlier goes first", net.sliceOf(0), 8);
    }

    private static void promise10OverAfterDays() {
        MeshBiller net = new MeshBiller();
        Check.passLong(net, 2390);
        net.buy(0, 7, 5000, 1, 0, 0);
        net.buy(0, 7, 500, 2, 0, 0);
        net.buy(1, 7, 5000, 30, 0, 0);
        net.begin(0, 1, false);
        net.pass(9);
        Check.due("left in the last second of the day", net.left(0), 4980);
        Check.due("the slice of it", net.sliceOf(0), 11);
        net.pass(1);
        Check.due("over when the next day has begun", net.left(0), 0);
        Check.due("the one of two days is not", net.left(1), 500);
        Check.due("a slice is not given back before the second is lived", net.sliceOf(0), 10);
        net.pass(1);
        Check.due("a new slice of the next bundle", net.left(1), 480);
        Check.due("19 seconds of it are left", net.sliceOf(0), 19);
        net.leave(0);
        Check.due("what is not used goes back", net.left(1), 499);
        Check.passLong(net, 2400);
        Check.due("the second one is over a day later", net.left(1), 0);
    }

    private static void promise10MostBundles() {
        MeshBiller net = withBundles(39);
        Check.due("the bundle 40", net.buy(3, 1, 1, 1, 0, 0), 39);
        Check.refuses("the bundle 41", Check.STATE, () -> withBundles(40), x -> x.buy(0, 7, 5, 2, 0, 0));
        Check.refuses("the bundle 41 with a wrong rank", Check.ARGUMENT, () -> withBundles(40),
            x -> x.buy(0, 7, 5, 2, 10, 0));
    }

    private static void promise11Free() {
        MeshBiller net = rich();
        net.begin(1, 5, false);
        Check.due("free when slices are set aside", net.free(1), 1000 - 400 - 600 + 0);
        net.leave(1);
        Check.due("free when they went back", net.free(1), 1000);
        Check.refuses("free(-1)", Check.INDEX, WalletsTest::rich, x -> x.free(-1));
        Check.refuses("free(4)", Check.INDEX, WalletsTest::rich, x -> x.free(4));
    }

    private static void promise12Aside() {
        MeshBiller net = new MeshBiller();
        net.top(1, 1000);
        net.buy(0, 1, 100, 1, 0, 0);
        net.begin(1, 0, false);
        Check.due("aside for the leg of the phone 1", net.aside(1), 400);
        Check.due("what is of a bundle is no money", net.aside(0), 0);
        net.join(2, 0, false);
        net.pass(3);
        Check.due("what is used is not aside", net.aside(1), 340);
        net.join(9, 0, true);
        Check.due("several legs", net.aside(1), 340 + 400);
        net.leave(9);
        Check.due("one went back", net.aside(1), 340);
        net.leave(1);
        Check.due("all went back", net.aside(1), 0);
        Check.due("free, aside and spent together", net.free(1) + net.aside(1) + net.spent(1), 1000);
        Check.refuses("aside(-1)", Check.INDEX, WalletsTest::rich, x -> x.aside(-1));
        Check.refuses("aside(4)", Check.INDEX, WalletsTest::rich, x -> x.aside(4));
    }

    private static void promise13Spent() {
        MeshBiller net = rich();
        net.begin(1, 0, true);
        net.pass(7);
        Check.due("spent for both legs", net.spent(1), 7 * 20 + 7 * 10);
        Check.due("the other wallet spent nothing", net.spent(0), 0);
        net.leave(1);
        net.begin(0, 1, false);
        net.pass(4);
        Check.due("spent sums over calls", net.spent(1), 210 + 80);
        Check.due("what a bundle covers is not spent", net.spent(0), 0);
        Check.refuses("spent(-1)", Check.INDEX, WalletsTest::rich, x -> x.spent(-1));
        Check.refuses("spent(4)", Check.INDEX, WalletsTest::rich, x -> x.spent(4));
    }

    private static void promise14Left() {
        MeshBiller net = rich();
        Check.due("left at first", net.left(0), 100);
        net.begin(0, 1, false);
        Check.due("left without what is set aside", net.left(0), 80);
        net.pass(5);
        Check.due("a slice in use", net.left(0), 80);
        net.move(0, 1);
        Check.due("a move alone gives nothing back", net.left(0), 80);
        net.pass(1);
        Check.due("a zone that it does not cover: the slice goes back", net.left(0), 95);
        Check.due("and the leg is paid by money", net.charged(0), 20);
        net.move(0, 0);
        net.pass(1);
        Check.due("back in its zone: the money goes back, as the rate is another one", net.left(0), 75);
        Check.due("all money but that of a second is free", net.free(0), 980);
        Check.refuses("left(-1)", Check.INDEX, WalletsTest::rich, x -> x.left(-1));
        Check.refuses("left(1)", Check.INDEX, WalletsTest::rich, x -> x.left(1));
    }

    private static void promise14BackToABundleThatIsOver() {
        MeshBiller net = rich();
        Check.passLong(net, 2395);
        net.begin(0, 1, false);
        net.pass(5);
        Check.due("the bundle is over, the slice goes on", net.sliceOf(0), 15);
        net.leave(0);
        Check.due("what is given back is lost", net.left(0), 0);
        Check.due("the money is as it was", net.free(0), 1000);
        Check.due("5 seconds were covered", net.covered(0), 50);
    }
}
