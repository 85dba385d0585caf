/** Promises 1 to 7: a new object, and what is set for cells, rates and phones. */
public final class SettingsTest {
    public static void main(String[] args) {
        Check.runTests(SettingsTest.class);
    }

    private static MeshBiller fresh() {
        return new MeshBiller();
    }

    private static MeshBiller inCall() {
        MeshBiller net = new MeshBiller();
        net.top(0, 100000);
        net.top(1, 100000);
        net.begin(0, 1, false);
        return net;
    }

    private static void promise1NewObject() {
        MeshBiller net = fresh();
        Check.due("now of a new object", net.now(), 0);
        Check.due("legs of a new object", net.legs(), 0);
        for (int phone = 0; phone < 10; phone++) {
            Check.due("cellOf at first", net.cellOf(phone), phone % 8);
            Check.due("rateOf at first", net.rateOf(phone), 10 * (phone % 8 % 3 + 1));
            Check.due("legOf at first", net.legOf(phone), MeshBiller.NONE);
            Check.due("sliceOf at first", net.sliceOf(phone), 0);
            Check.due("the first cap", net.setCap(phone, 5), MeshBiller.NONE);
            Check.due("the first wallet", net.setWallet(phone, 0), phone % 4);
        }
        for (int wallet = 0; wallet < 4; wallet++) {
            Check.due("free at first", net.free(wallet), 0);
            Check.due("aside at first", net.aside(wallet), 0);
            Check.due("spent at first", net.spent(wallet), 0);
        }
        for (int zone = 0; zone < 3; zone++) {
            Check.due("the first peak rate", net.setRate(zone, true, 1), 20 * (zone + 1));
            Check.due("the first other rate", net.setRate(zone, false, 1), 10 * (zone + 1));
        }
        for (int cell = 0; cell < 8; cell++) {
            Check.due("the first zone", net.setZone(cell, 0), cell % 3);
        }
        Check.due("the first length", net.setSlice(1), 20);
        Check.refuses("no bundle at first", Check.INDEX, SettingsTest::fresh, x -> x.left(0));
        Check.refuses("no call at first", Check.INDEX, SettingsTest::fresh, x -> x.parties(0));
        Check.refuses("no leg at first", Check.INDEX, SettingsTest::fresh, x -> x.stateOf(0));
    }

    private static void promise2SetZone() {
        MeshBiller net = fresh();
        Check.due("setZone(0, 2)", net.setZone(0, 2), 0);
        Check.due("setZone(0, 1)", net.setZone(0, 1), 2);
        Check.due("setZone(0, 1) again", net.setZone(0, 1), 1);
        Check.due("rateOf in the zone 1", net.rateOf(0), 20);
        Check.due("rateOf of the other phone there", net.rateOf(8), 20);
        Check.due("setZone(7, 0)", net.setZone(7, 0), 1);
        Check.refuses("setZone(-1, 0)", Check.INDEX, SettingsTest::fresh, x -> x.setZone(-1, 0));
        Check.refuses("setZone(8, 3)", Check.INDEX, SettingsTest::fresh, x -> x.setZone(8, 3));
        Check.refuses("setZone(0, -1)", Check.ARGUMENT, SettingsTest::fresh, x -> x.setZone(0, -1));
        Check.refuses("setZone(0, 3)", Check.ARGUMENT, SettingsTest::fresh, x -> x.setZone(0, 3));
        Check.refuses("setZone(8, 0) in a call", Check.INDEX, SettingsTest::inCall, x -> x.setZone(8, 0));
        Check.refuses("setZone(0, 3) in a call", Check.ARGUMENT, SettingsTest::inCall, x -> x.setZone(0, 3));
        Check.refuses("setZone(5, 0) in a call", Check.STATE, SettingsTest::inCall, x -> x.setZone(5, 0));
        Check.refuses("setZone behind a call", Check.STATE, () -> {
            MeshBiller over = inCall();
            over.leave(0);
            return over;
        }, x -> x.setZone(5, 2));
    }

    private static void promise3SetChannels() {
        MeshBiller net = inCall();
        Check.due("setChannels where a leg is", net.setChannels(0, 0, 0), 1);
        Check.due("setChannels where none is", net.setChannels(5, 10, 10), 0);
        Check.due("the leg stays", net.stateOf(0), MeshBiller.GOES_ON);
        net.pass(5);
        Check.due("the leg stays in a cell without channels", net.seconds(0), 5);
        net.move(1, 2);
        Check.due("no leg is left in the cell 1", net.setChannels(1, 3, 0), 0);
        Check.due("it is in the cell 2", net.setChannels(2, 3, 0), 1);
        Check.refuses("setChannels(-1, 0, 0)", Check.INDEX, SettingsTest::fresh, x -> x.setChannels(-1, 0, 0));
        Check.refuses("setChannels(8, 11, 0)", Check.INDEX, SettingsTest::fresh, x -> x.setChannels(8, 11, 0));
        Check.refuses("11 channels", Check.ARGUMENT, SettingsTest::inCall, x -> x.setChannels(0, 11, 0));
        Check.refuses("-1 channels", Check.ARGUMENT, SettingsTest::inCall, x -> x.setChannels(0, -1, 0));
        Check.refuses("-1 guarded", Check.ARGUMENT, SettingsTest::inCall, x -> x.setChannels(0, 3, -1));
        Check.refuses("more guarded than channels", Check.ARGUMENT, SettingsTest::inCall, x -> x.setChannels(0, 3, 4));
    }

    /** Guarded channels are for legs that come from another cell alone. */
    private static void promise3Guards() {
        MeshBiller net = inCall();
        net.top(2, 1000);
        net.setChannels(2, 2, 2);
        Check.due("begin in a cell that is all guarded", Check.thrownBy(net, x -> x.begin(2, 3, false)),
                "IllegalStateException");
        Check.due("move to guarded channels", net.move(1, 2), true);
        net.setChannels(2, 2, 1);
        Check.due("join when the only open channel is used", Check.thrownBy(net, x -> x.join(2, 0, false)),
                "IllegalStateException");
        net.setChannels(2, 3, 1);
        Check.due("join with an open channel", net.join(2, 0, false), 2);
        net.setChannels(2, 0, 0);
        Check.due("a cell keeps two legs", net.setChannels(2, 2, 0), 2);
        Check.due("a refused setChannels", Check.thrownBy(net, x -> x.setChannels(2, 4, 5)), "IllegalArgumentException");
        net.move(3, 2);
        Check.due("it left two channels", Check.thrownBy(net, x -> x.join(3, 0, true)), "IllegalStateException");
    }

    private static void promise4SetRate() {
        MeshBiller net = fresh();
        Check.due("setRate(0, false, 1000)", net.setRate(0, false, 1000), 10);
        Check.due("setRate(0, false, 0)", net.setRate(0, false, 0), 1000);
        Check.due("the peak rate is another one", net.setRate(0, true, 7), 20);
        Check.due("setRate(2, true, 5)", net.setRate(2, true, 5), 60);
        Check.due("rateOf at night", net.rateOf(0), 0);
        Check.due("the zone 1 keeps its rate", net.rateOf(1), 20);
        Check.passLong(net, 799);
        Check.due("rateOf in the last second of the hour 7", net.rateOf(0), 0);
        net.pass(1);
        Check.due("rateOf in the first second of the hour 8", net.rateOf(0), 7);
        Check.due("rateOf of the zone 2 in the hour 8", net.rateOf(2), 5);
        Check.passLong(net, 1199);
        Check.due("rateOf in the last second of the hour 19", net.rateOf(0), 7);
        net.pass(1);
        Check.due("rateOf in the hour 20", net.rateOf(0), 0);
        Check.passLong(net, 1200);
        Check.due("rateOf in the hour 8 of the next day", net.rateOf(0), 7);
        Check.refuses("setRate(-1, ..)", Check.ARGUMENT, SettingsTest::inCall, x -> x.setRate(-1, true, 0));
        Check.refuses("setRate(3, ..)", Check.ARGUMENT, SettingsTest::inCall, x -> x.setRate(3, true, 0));
        Check.refuses("setRate(.., -1)", Check.ARGUMENT, SettingsTest::inCall, x -> x.setRate(0, false, -1));
        Check.refuses("setRate(.., 1001)", Check.ARGUMENT, SettingsTest::inCall, x -> x.setRate(0, false, 1001));
    }

    private static void promise4FromThisSecondOn() {
        MeshBiller net = inCall();
        net.pass(3);
        net.setRate(0, false, 50);
        Check.due("the slice stays at its rate until the second is lived", net.aside(0), 170);
        net.setRate(0, false, 3);
        net.pass(2);
        Check.due("charged before and behind setRate", net.charged(0), 36);
        Check.due("a new slice of 20 seconds at the new rate", net.sliceOf(0), 18);
        Check.due("aside at the new rate", net.aside(0), 54);
        Check.due("rated again with both rates", net.ratedByEvents(0), 36);
        net.setRate(0, false, 4);
        net.setRate(0, false, 3);
        net.pass(1);
        Check.due("a rate that is set to and fro keeps the slice", net.sliceOf(0), 17);
        net.setRate(0, true, 999);
        net.pass(1);
        Check.due("a rate of other hours keeps the slice", net.sliceOf(0), 16);
    }

    private static void promise5SetSlice() {
        MeshBiller net = inCall();
        Check.due("setSlice(100)", net.setSlice(100), 20);
        Check.due("a slice that is set aside stays", net.sliceOf(0), 20);
        Check.due("setSlice(3)", net.setSlice(3), 100);
        net.pass(20);
        Check.due("a slice is used up", net.sliceOf(0), 0);
        net.pass(1);
        Check.due("the next one has 3 seconds", net.sliceOf(0), 2);
        Check.due("setSlice(1)", net.setSlice(1), 3);
        net.pass(3);
        Check.due("a slice of a second", net.sliceOf(0), 0);
        Check.due("charged for 24 seconds", net.charged(0), 240);
        Check.refuses("setSlice(0)", Check.ARGUMENT, SettingsTest::inCall, x -> x.setSlice(0));
        Check.refuses("setSlice(101)", Check.ARGUMENT, SettingsTest::inCall, x -> x.setSlice(101));
        Check.thrownBy(net, x -> x.setSlice(0));
        Check.due("a refused setSlice changes nothing", net.setSlice(5), 1);
    }

    private static void promise6SetCap() {
        MeshBiller net = inCall();
        Check.due("setCap(0, 0)", net.setCap(0, 0), MeshBiller.NONE);
        Check.due("setCap(0, 1000000)", net.setCap(0, 1000000), 0);
        Check.due("setCap(0, NONE)", net.setCap(0, MeshBiller.NONE), 1000000);
        Check.refuses("setCap(-1, 0)", Check.INDEX, SettingsTest::inCall, x -> x.setCap(-1, 0));
        Check.refuses("setCap(10, -2)", Check.INDEX, SettingsTest::inCall, x -> x.setCap(10, -2));
        Check.refuses("setCap(0, -2)", Check.ARGUMENT, SettingsTest::inCall, x -> x.setCap(0, -2));
        Check.refuses("setCap(0, 1000001)", Check.ARGUMENT, SettingsTest::inCall, x -> x.setCap(0, 1000001));
        Check.thrownBy(net, x -> x.setCap(0, -2));
        Check.due("a refused setCap changes nothing", net.setCap(0, 1), MeshBiller.NONE);
    }

    private static void promise6CapOfADay() {
        MeshBiller net = fresh();
        net.top(0, 100000);
        net.top(1, 100000);
        net.setCap(0, 250);
        net.begin(0, 1, false);
        Check.due("the cap lets 20 of 25 seconds at first", net.sliceOf(0), 20);
        net.pass(10);
        net.leave(0);
        net.begin(0, 1, false);
        Check.due("an earlier leg of the day counts: 150 mills are left", net.sliceOf(0), 15);
        Check.due("15 seconds are lived", net.pass(15), 0);
        Check.due("the 26th one is not", net.pass(1), 1);
        Check.due("the leg is CUT", net.stateOf(2), MeshBiller.CUT);
        net.begin(0, 1, false);
        Check.due("a leg that begins beyond the cap is CUT", net.stateOf(4), MeshBiller.CUT);
        Check.due("and the other one ENDS", net.stateOf(5), MeshBiller.ENDED);
        net.setRate(0, false, 0);
        net.begin(0, 1, false);
        Check.due("at the rate 0 the cap lets the whole length", net.sliceOf(0), 20);
        net.leave(0);
        net.setRate(0, false, 10);
        Check.passLong(net, 2399 - net.now());
        net.begin(0, 1, false);
        Check.due("the last second of the day counts to it", net.stateOf(net.legs() - 2), MeshBiller.CUT);
        net.pass(1);
        net.begin(0, 1, false);
        Check.due("the next day begins anew", net.sliceOf(0), 20);
        Check.due("it begins with nothing used: 5 more at the end", net.pass(25), 0);
        Check.due("and then none", net.pass(1), 1);
        Check.due("the cap lowered: what is set aside stays", net.setCap(0, 5), 250);
    }

    private static void promise6CapWhoeverPays() {
        MeshBiller net = fresh();
        net.top(0, 100000);
        net.top(1, 100000);
        net.buy(0, 1, 5, 1, 0, 0);
        net.setCap(1, 110);
        net.setCap(0, 30);
        net.begin(0, 1, true);
        Check.due("the cap of the phone, not that of the host", net.sliceOf(1), 5);
        Check.due("what a bundle covers is not under the cap", net.sliceOf(0), 5);
        net.pass(5);
        Check.due("the hosted leg is CUT in the sixth second", net.pass(1), 1);
        Check.due("charged to the host", net.charged(1), 100);
        net.begin(1, 0, false);
        Check.due("what others paid counts too: CUT at once", net.stateOf(2), MeshBiller.CUT);
        net.begin(0, 9, false);
        Check.due("a fresh leg under the cap of 30", net.sliceOf(0), 2);
    }

    private static void promise7SetWallet() {
        MeshBiller net = fresh();
        Check.due("setWallet(9, 3)", net.setWallet(9, 3), 1);
        Check.due("setWallet(9, 0)", net.setWallet(9, 0), 3);
        net.top(0, 1000);
        net.begin(9, 0, false);
        Check.due("the phone is paid by its new wallet", net.aside(0), 400 + 200);
        net.leave(9);
        Check.due("setWallet when the call is over", net.setWallet(9, 2), 0);
        Check.refuses("setWallet(-1, 0)", Check.INDEX, SettingsTest::fresh, x -> x.setWallet(-1, 0));
        Check.refuses("setWallet(10, 0)", Check.INDEX, SettingsTest::fresh, x -> x.setWallet(10, 0));
        Check.refuses("setWallet(2, -1)", Check.INDEX, SettingsTest::fresh, x -> x.setWallet(2, -1));
        Check.refuses("setWallet(0, 4) in a call", Check.INDEX, SettingsTest::inCall, x -> x.setWallet(0, 4));
        Check.refuses("setWallet(0, 2) in a call", Check.STATE, SettingsTest::inCall, x -> x.setWallet(0, 2));
        Check.refuses("setWallet(1, 1) in a call", Check.STATE, SettingsTest::inCall, x -> x.setWallet(1, 1));
    }
}
