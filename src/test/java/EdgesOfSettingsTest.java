/** Promises 1 to 7, at their edges: one test for each sentence that names one, which is told ahead of it. */
public final class EdgesOfSettingsTest {
    public static void main(String[] args) {
        Check.runTests(EdgesOfSettingsTest.class);
    }

    /** Promise 1, "The second 0". */
    private static void promise1TheSecond0() {
        Check.due("now", new MeshBiller().now(), 0);
        Check.due("a second later", Scenes.at(1).now(), 1);
    }

    /** Promise 1, "no money". */
    private static void promise1NoMoney() {
        for (int wallet = 0; wallet < 4; wallet++) {
            int w = wallet;
            MeshBiller net = new MeshBiller();
            Check.due("free", net.free(w), 0);
            Check.due("aside", net.aside(w), 0);
            Check.due("spent", net.spent(w), 0);
            Check.refuses("the least gift", Check.STATE, Scenes::empty, x -> x.give(w, (w + 1) % 4, 1));
            Check.refuses("the least price", Check.STATE, Scenes::empty, x -> x.buy(w, 1, 1, 1, 0, 1));
            Check.due("a bundle for nothing", net.buy(w, 1, 1, 1, 0, 0), 0);
        }
    }

    /** Promise 1, "no .. bundles". */
    private static void promise1NoBundles() {
        Check.refuses("left", Check.INDEX, Scenes::empty, x -> x.left(0));
        Check.due("the first one is the bundle 0", Scenes.empty().buy(3, 7, 1, 1, 9, 0), 0);
    }

    /** Promise 1, "no .. calls". */
    private static void promise1NoCalls() {
        Check.due("legs", new MeshBiller().legs(), 0);
        Check.refuses("parties", Check.INDEX, Scenes::empty, x -> x.parties(0));
        Check.refuses("stamp", Check.INDEX, Scenes::empty, x -> x.stamp(0));
        Check.refuses("join", Check.INDEX, Scenes::empty, x -> x.join(0, 0, false));
        Check.refuses("lineAt", Check.INDEX, Scenes::empty, x -> x.lineAt(0, 0));
        for (int phone = 0; phone < 10; phone++) {
            int p = phone;
            Check.refuses("leave", Check.STATE, Scenes::empty, x -> x.leave(p));
        }
        Check.due("seconds without a leg cut none", new MeshBiller().pass(500), 0);
    }

    /** Promise 1: objects know nothing of one another. */
    private static void promise1EachObjectAnew() {
        MeshBiller used = Scenes.inFullCall();
        used.setRate(0, false, 999);
        used.buy(0, 7, 5, 1, 0, 0);
        used.pass(3);
        Check.due("all of a new one", Probe.of(Scenes::empty), Probe.of(MeshBiller::new));
        Check.due("its rate", new MeshBiller().rateOf(0), 10);
    }

    /** Promise 2, "cell: 0 to 7", "Throws IndexOutOfBoundsException if there is no such cell". */
    private static void promise2Cell() {
        Check.range("the cell", Scenes::rich, Check.INDEX, 0, 7, (x, v) -> x.setZone(v, 1));
    }

    /** Promise 2, "zone: 0 to 2", "Throws IllegalArgumentException if zone is out of range". */
    private static void promise2Zone() {
        Check.range("the zone", Scenes::rich, Check.ARGUMENT, 0, 2, (x, v) -> x.setZone(3, v));
        MeshBiller net = new MeshBiller();
        for (int cell = 0; cell < 8; cell++) {
            net.setZone(cell, 2);
            net.setZone(cell, 0);
            Check.due("the zone before: the least", net.setZone(cell, 2), 0);
            Check.due("the zone before: the most", net.setZone(cell, 1), 2);
        }
    }

    /** Promise 2, "Throws IllegalStateException if a call has been begun", also one that is over. */
    private static void promise2ACallHasBeenBegun() {
        Check.refuses("in a call", Check.STATE, Scenes::inCall, x -> x.setZone(5, 0));
        Check.refuses("behind a call", Check.STATE, Scenes::behindCall, x -> x.setZone(5, 0));
        Check.refuses("the zone that it has", Check.STATE, Scenes::inCall, x -> x.setZone(0, 0));
        MeshBiller cut = new MeshBiller();
        cut.begin(0, 1, false);
        Check.due("a call without a second is one", Check.thrownBy(cut, x -> x.setZone(5, 0)), "IllegalStateException");
    }

    /** Promise 2, the other way: calls that were refused have not been begun. */
    private static void promise2ARefusedCallWasNotBegun() {
        MeshBiller net = new MeshBiller();
        net.setChannels(1, 0, 0);
        Check.thrownBy(net, x -> x.begin(0, 1, false));
        Check.thrownBy(net, x -> x.begin(0, 0, false));
        Check.thrownBy(net, x -> x.begin(0, 10, false));
        Check.due("setZone", net.setZone(5, 0), 2);
    }

    /** Promise 2: which one is thrown first. */
    private static void promise2FirstOfSeveral() {
        Check.refuses("cell, zone", Check.INDEX, Scenes::rich, x -> x.setZone(8, 3));
        Check.refuses("cell, call", Check.INDEX, Scenes::inCall, x -> x.setZone(-1, 0));
        Check.refuses("zone, call", Check.ARGUMENT, Scenes::inCall, x -> x.setZone(0, -1));
        Check.refuses("cell, zone, call", Check.INDEX, Scenes::inCall, x -> x.setZone(8, 3));
    }

    /** Promise 3, "cell: 0 to 7", "Throws IndexOutOfBoundsException if there is no such cell". */
    private static void promise3Cell() {
        Check.range("the cell", Scenes::inCall, Check.INDEX, 0, 7, (x, v) -> x.setChannels(v, 1, 1));
    }

    /** Promise 3, "channels: 0 to 10", "Throws IllegalArgumentException if channels .. is out of range". */
    private static void promise3Channels() {
        Check.range("channels", Scenes::inCall, Check.ARGUMENT, 0, 10, (x, v) -> x.setChannels(0, v, 0));
    }

    /** Promise 3, "guarded: 0 to channels", "Throws IllegalArgumentException if .. guarded is out of range". */
    private static void promise3Guarded() {
        Check.range("guarded of 10", Scenes::inCall, Check.ARGUMENT, 0, 10, (x, v) -> x.setChannels(0, 10, v));
        Check.range("guarded of 4", Scenes::inCall, Check.ARGUMENT, 0, 4, (x, v) -> x.setChannels(0, 4, v));
        Check.range("guarded of none", Scenes::inCall, Check.ARGUMENT, 0, 0, (x, v) -> x.setChannels(0, 0, v));
        Check.refuses("by the channels that are set, not by those before", Check.ARGUMENT, Scenes::rich,
            x -> x.setChannels(0, 2, 3));
    }

    /** Promise 3: which one is thrown first. */
    private static void promise3FirstOfSeveral() {
        Check.refuses("cell, channels", Check.INDEX, Scenes::inCall, x -> x.setChannels(8, 11, 0));
        Check.refuses("cell, guarded", Check.INDEX, Scenes::inCall, x -> x.setChannels(-1, 2, 3));
    }

    /** Promise 3, "legs that are in it stay", also beyond its channels. */
    private static void promise3LegsStay() {
        MeshBiller net = Scenes.inCall();
        net.setChannels(0, 0, 0);
        net.setChannels(1, 1, 1);
        net.pass(21);
        Check.due("without a channel", net.seconds(0), 21);
        Check.due("with the only channel guarded", net.seconds(1), 21);
    }

    /** Promise 3, "Returns how many legs are in it": none, and those of all phones. */
    private static void promise3LegsInIt() {
        MeshBiller net = Scenes.rich();
        net.setChannels(4, 10, 0);
        for (int phone = 0; phone < 10; phone++) {
            net.move(phone, 4);
        }
        Check.due("phones without legs", net.setChannels(4, 10, 0), 0);
        for (int phone = 0; phone < 10; phone += 2) {
            net.begin(phone, phone + 1, false);
            Check.due("legs", net.setChannels(4, 10, 0), phone + 2);
        }
        Check.due("legs of all phones in a cell without channels", net.setChannels(4, 0, 0) + net.setChannels(4, 0, 0),
            20);
        Check.due("another cell", net.setChannels(3, 3, 0), 0);
        net.leave(0);
        Check.due("legs that are over are not in it", net.setChannels(4, 0, 0), 8);
    }

    /** Promise 4, "zone: 0 to 2", "Throws IllegalArgumentException if zone .. is out of range". */
    private static void promise4Zone() {
        Check.range("the zone, peak", Scenes::inCall, Check.ARGUMENT, 0, 2, (x, v) -> x.setRate(v, true, 5));
        Check.range("the zone, else", Scenes::inCall, Check.ARGUMENT, 0, 2, (x, v) -> x.setRate(v, false, 5));
    }

    /** Promise 4, "rate: 0 to 1000", "Throws IllegalArgumentException if .. rate is out of range". */
    private static void promise4Rate() {
        Check.range("the rate, peak", Scenes::inCall, Check.ARGUMENT, 0, 1000, (x, v) -> x.setRate(0, true, v));
        Check.range("the rate, else", Scenes::inCall, Check.ARGUMENT, 0, 1000, (x, v) -> x.setRate(0, false, v));
        Check.refuses("both", Check.ARGUMENT, Scenes::inCall, x -> x.setRate(3, false, 1001));
        MeshBiller net = Scenes.inCall();
        net.setRate(0, false, 1000);
        net.pass(1);
        Check.due("the most is charged", net.charged(0), 1000);
        net.setRate(0, false, 0);
        net.pass(1);
        Check.due("the least is charged", net.charged(0), 1000);
        Check.due("the least, returned", net.setRate(0, false, 1000), 0);
        Check.due("the most, returned", net.setRate(0, false, 1), 1000);
    }

    /** Promise 4, "isPeak: whether it is that for peak hours": the other one stays. */
    private static void promise4IsPeak() {
        for (int zone = 0; zone < 3; zone++) {
            MeshBiller net = new MeshBiller();
            net.setRate(zone, true, 777);
            Check.due("the other one", net.setRate(zone, false, 888), 10 * (zone + 1));
            Check.due("that for peak hours", net.setRate(zone, true, 1), 777);
            Check.due("the next zone", net.setRate((zone + 1) % 3, true, 1), 20 * ((zone + 1) % 3 + 1));
        }
    }

    /** Promise 4, "from this second on": the second behind is rated as it was. */
    private static void promise4FromThisSecondOn() {
        MeshBiller net = Scenes.inCall();
        net.pass(4);
        net.setRate(0, false, 100);
        Check.due("nothing is rated again by another rate", net.ratedByEvents(0), 40);
        net.pass(1);
        Check.due("this second", net.charged(0), 40 + 100);
        Check.due("rated again", net.ratedByEvents(0), 40 + 100);
    }

    /** Promise 5, "seconds: 1 to 100", "Throws IllegalArgumentException if seconds is out of range". */
    private static void promise5Seconds() {
        Check.range("seconds", Scenes::inCall, Check.ARGUMENT, 1, 100, (x, v) -> x.setSlice(v));
        MeshBiller net = Scenes.rich();
        net.setSlice(1);
        net.begin(0, 1, false);
        Check.due("the least", net.sliceOf(0), 1);
        net.setSlice(100);
        net.begin(2, 3, false);
        Check.due("the most", net.sliceOf(2), 100);
        Check.due("the most, returned", net.setSlice(1), 100);
        Check.due("the least, returned", net.setSlice(2), 1);
    }

    /** Promise 5, "slices that are set aside from now on": one that is there stays, shorter or longer. */
    private static void promise5FromNowOn() {
        MeshBiller net = Scenes.inCall();
        net.setSlice(1);
        Check.due("a longer one", net.sliceOf(0), 20);
        net.setSlice(100);
        Check.due("a shorter one", net.sliceOf(0), 20);
        net.pass(20);
        Check.due("used up", net.sliceOf(0), 0);
        net.setSlice(2);
        net.pass(1);
        Check.due("the next one", net.sliceOf(0), 1);
    }

    /** Promise 6, "phone: 0 to 9", "Throws IndexOutOfBoundsException if there is no such phone". */
    private static void promise6Phone() {
        Check.range("the phone", Scenes::inCall, Check.INDEX, 0, 9, (x, v) -> x.setCap(v, 5));
    }

    /** Promise 6, "cap: 0 to 1000000 a day, or NONE", "Throws IllegalArgumentException if cap is out of range". */
    private static void promise6Cap() {
        Check.range("the cap", Scenes::inCall, Check.ARGUMENT, MeshBiller.NONE, 1000000, (x, v) -> x.setCap(0, v));
        MeshBiller net = Scenes.empty();
        Check.due("none at first", net.setCap(9, 0), MeshBiller.NONE);
        Check.due("the least", net.setCap(9, 1000000), 0);
        Check.due("the most", net.setCap(9, MeshBiller.NONE), 1000000);
        Check.due("none", net.setCap(9, 1), MeshBiller.NONE);
        Check.due("that of another phone", net.setCap(8, 1), MeshBiller.NONE);
    }

    /** Promise 6: which one is thrown first. */
    private static void promise6FirstOfSeveral() {
        Check.refuses("phone, cap", Check.INDEX, Scenes::inCall, x -> x.setCap(10, 1000001));
        Check.refuses("phone, cap", Check.INDEX, Scenes::inCall, x -> x.setCap(-1, -2));
    }

    /** Promise 7, "phone: 0 to 9", "Throws IndexOutOfBoundsException if there is no such phone". */
    private static void promise7Phone() {
        Check.range("the phone", Scenes::rich, Check.INDEX, 0, 9, (x, v) -> x.setWallet(v, 2));
    }

    /** Promise 7, "wallet: 0 to 3", "Throws IndexOutOfBoundsException if there is no such .. wallet". */
    private static void promise7Wallet() {
        Check.range("the wallet", Scenes::rich, Check.INDEX, 0, 3, (x, v) -> x.setWallet(5, v));
        MeshBiller net = Scenes.empty();
        net.setWallet(5, 3);
        Check.due("the most", net.setWallet(5, 0), 3);
        Check.due("the least", net.setWallet(5, 0), 0);
    }

    /** Promise 7, "Throws IllegalStateException if the phone is in a call", until its leg is over. */
    private static void promise7ThePhoneIsInACall() {
        Check.refuses("the host", Check.STATE, Scenes::inCall, x -> x.setWallet(0, 1));
        Check.refuses("the other one", Check.STATE, Scenes::inCall, x -> x.setWallet(1, 2));
        Check.refuses("the wallet that it has", Check.STATE, Scenes::inCall, x -> x.setWallet(0, 0));
        Check.due("a phone in no call", Scenes.inCall().setWallet(2, 0), 2);
        MeshBiller net = Scenes.inFullCall();
        net.leave(0);
        Check.due("its leg has ENDED, its call goes on", net.setWallet(0, 1), 0);
        net.move(1, 5);
        Check.due("its leg was DROPPED", net.setWallet(1, 2), 1);
        net.setCap(2, 0);
        net.pass(21);
        Check.due("its leg was CUT", net.setWallet(2, 3), 2);
        Check.due("it was the last one", net.setWallet(3, 0), 3);
    }

    /** Promise 7: which one is thrown first. */
    private static void promise7FirstOfSeveral() {
        Check.refuses("wallet, call", Check.INDEX, Scenes::inCall, x -> x.setWallet(0, 4));
        Check.refuses("wallet, call", Check.INDEX, Scenes::inCall, x -> x.setWallet(1, -1));
        Check.refuses("phone and wallet", Check.INDEX, Scenes::inCall, x -> x.setWallet(10, 4));
    }
}
