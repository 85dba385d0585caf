/** Promises 15 to 20: calls that begin, are joined, left, handed over and lived; and the terms of slices. */
public final class CallsTest {
    public static void main(String[] args) {
        Check.runTests(CallsTest.class);
    }

    private static MeshBiller rich() {
        MeshBiller net = new MeshBiller();
        for (int wallet = 0; wallet < 4; wallet++) {
            net.top(wallet, 10000);
        }
        return net;
    }

    private static MeshBiller inCall() {
        MeshBiller net = rich();
        net.begin(0, 1, false);
        return net;
    }

    private static void promise15Begin() {
        MeshBiller net = rich();
        Check.due("the first call", net.begin(5, 2, false), 0);
        Check.due("the host has the lower leg", net.legOf(5), 0);
        Check.due("the other one has the next", net.legOf(2), 1);
        Check.due("the second call", net.begin(3, 0, true), 1);
        Check.due("its legs", net.legOf(0), 3);
        Check.due("the hosted leg is paid by the wallet of the host", net.aside(3), 200 + 200);
        Check.due("the wallet of the other one is as it was", net.aside(0), 0);
        Check.due("legs that are not hosted: the host's", net.aside(1), 20 * 30);
        Check.due("and the other one's", net.aside(2), 20 * 30);
        MeshBiller poor = new MeshBiller();
        poor.top(1, 100);
        Check.due("a call that is over at once has a number", poor.begin(0, 1, false), 0);
        Check.due("the host is CUT", poor.stateOf(0), MeshBiller.CUT);
        Check.due("the other one ENDS ahead of its slice", poor.stateOf(1), MeshBiller.ENDED);
        Check.due("nothing is set aside", poor.aside(1), 0);
        Check.due("the other way", poor.begin(1, 0, false), 1);
        Check.due("the host ENDS", poor.stateOf(2), MeshBiller.ENDED);
        Check.due("the other one is CUT", poor.stateOf(3), MeshBiller.CUT);
        Check.due("its slice went back", poor.free(1), 100);
    }

    private static void promise15Refused() {
        Check.refuses("begin(-1, 0)", Check.INDEX, CallsTest::inCall, x -> x.begin(-1, 0, true));
        Check.refuses("begin(0, -1)", Check.INDEX, CallsTest::inCall, x -> x.begin(0, -1, true));
        Check.refuses("begin(10, 10)", Check.INDEX, CallsTest::inCall, x -> x.begin(10, 10, true));
        Check.refuses("begin(2, 10)", Check.INDEX, CallsTest::inCall, x -> x.begin(2, 10, true));
        Check.refuses("begin(0, 0) in a call", Check.ARGUMENT, CallsTest::inCall, x -> x.begin(0, 0, true));
        Check.refuses("begin(2, 2)", Check.ARGUMENT, CallsTest::inCall, x -> x.begin(2, 2, true));
        Check.refuses("the host is in a call", Check.STATE, CallsTest::inCall, x -> x.begin(0, 2, true));
        Check.refuses("the other one is in a call", Check.STATE, CallsTest::inCall, x -> x.begin(2, 1, true));
    }

    private static MeshBiller withChannels(int channels, int guarded) {
        MeshBiller net = rich();
        net.setChannels(1, channels, guarded);
        return net;
    }

    private static void promise15Channels() {
        Check.due("two channels for both", withChannels(2, 0).begin(1, 9, false), 0);
        Check.refuses("one channel for both", Check.STATE, () -> withChannels(1, 0), x -> x.begin(1, 9, false));
        Check.refuses("one of three is open", Check.STATE, () -> withChannels(3, 2), x -> x.begin(9, 1, false));
        Check.due("a channel for one of both", withChannels(1, 0).begin(1, 2, false), 0);
        Check.refuses("no channel for the host", Check.STATE, () -> withChannels(2, 2), x -> x.begin(1, 2, false));
        Check.refuses("no channel for the other one", Check.STATE, () -> withChannels(0, 0), x -> x.begin(2, 9, false));
        MeshBiller net = rich();
        net.move(2, 1);
        net.move(3, 1);
        net.begin(1, 9, false);
        Check.due("three channels at first: the third", net.begin(2, 4, false), 1);
        Check.due("no fourth", Check.thrownBy(net, x -> x.begin(3, 5, false)), "IllegalStateException");
        net.leave(1);
        Check.due("a channel is open again", net.begin(3, 5, false), 2);
    }

    private static MeshBiller withCalls(int calls) {
        MeshBiller net = rich();
        for (int i = 0; i < calls; i++) {
            net.begin(0, 1, false);
            net.leave(0);
        }
        return net;
    }

    private static MeshBiller withLegs(int joined) {
        MeshBiller net = inCall();
        for (int i = 0; i < joined; i++) {
            net.join(2, 0, false);
            net.leave(2);
        }
        return net;
    }

    private static void promise15MostCallsAndLegs() {
        Check.due("the call 40", withCalls(39).begin(0, 1, false), 39);
        Check.refuses("the call 41", Check.STATE, () -> withCalls(40), x -> x.begin(0, 1, false));
        MeshBiller net = withLegs(76);
        Check.due("the call with the legs 79 and 80", net.begin(3, 4, false), 1);
        Check.due("80 legs", net.legs(), 80);
        Check.refuses("more than 80 legs", Check.STATE, () -> withLegs(77), x -> x.begin(3, 4, false));
        Check.due("the leg 80", withLegs(77).join(3, 0, true), 79);
        Check.refuses("the leg 81", Check.STATE, () -> withLegs(78), x -> x.join(3, 0, true));
    }

    private static void promise16Join() {
        MeshBiller net = inCall();
        net.begin(4, 5, false);
        Check.due("the leg of the third phone", net.join(2, 0, false), 4);
        Check.due("it has a slice at once", net.sliceOf(2), 20);
        Check.due("the fourth phone", net.join(3, 0, false), 5);
        Check.due("parties", net.parties(0), 4);
        net.leave(0);
        Check.due("a place is free again", net.join(0, 0, false), 6);
        MeshBiller poor = inCall();
        poor.give(2, 0, 10000);
        Check.due("a phone that can't pay gets a leg", poor.join(2, 0, false), 2);
        Check.due("it is CUT", poor.stateOf(2), MeshBiller.CUT);
        Check.due("the others go on", poor.parties(0), 2);
        Check.due("what the leg was rated", poor.seconds(2), 0);
    }

    /** The wallet that the host has when the leg begins, also if it has left. */
    private static void promise16Hosted() {
        MeshBiller net = inCall();
        net.join(2, 0, true);
        Check.due("paid by the wallet 0", net.aside(0), 200 + 600);
        net.leave(0);
        net.setWallet(0, 3);
        Check.due("the wallet that it had when the leg began", net.aside(0), 600);
        net.join(3, 0, true);
        Check.due("for a later leg the one that it has now", net.aside(3), 200);
        net.setWallet(0, 2);
        Check.due("the host joins its call again", net.join(0, 0, true), 4);
        Check.due("paid by its own wallet", net.aside(2), 200);
        net.leave(2);
        Check.due("back to the wallet that paid", net.free(0), 10000);
    }

    private static void promise16Refused() {
        Check.refuses("join(-1, 0)", Check.INDEX, CallsTest::inCall, x -> x.join(-1, 0, true));
        Check.refuses("join(10, 0)", Check.INDEX, CallsTest::inCall, x -> x.join(10, 0, true));
        Check.refuses("join(2, 1)", Check.INDEX, CallsTest::inCall, x -> x.join(2, 1, true));
        Check.refuses("join(0, -1)", Check.INDEX, CallsTest::inCall, x -> x.join(0, -1, true));
        Check.refuses("join of a phone in the call", Check.STATE, CallsTest::inCall, x -> x.join(1, 0, true));
        Check.refuses("join of a call that is over", Check.STATE, () -> withCalls(1), x -> x.join(2, 0, true));
        Check.refuses("a fifth phone", Check.STATE, () -> {
            MeshBiller net = inCall();
            net.join(2, 0, false);
            net.join(3, 0, false);
            return net;
        }, x -> x.join(4, 0, false));
        Check.refuses("a phone in another call", Check.STATE, () -> {
            MeshBiller net = inCall();
            net.begin(2, 3, false);
            return net;
        }, x -> x.join(2, 0, false));
        Check.refuses("no channel", Check.STATE, () -> {
            MeshBiller net = inCall();
            net.setChannels(2, 3, 3);
            return net;
        }, x -> x.join(2, 0, false));
    }

    private static void promise17Leave() {
        MeshBiller net = inCall();
        net.join(2, 0, false);
        net.join(3, 0, false);
        net.pass(3);
        Check.due("three are left", net.leave(1), 3);
        Check.due("its leg has ENDED", net.stateOf(1), MeshBiller.ENDED);
        Check.due("its slice went back", net.free(1), 10000 - 60);
        Check.due("two are left, when the host leaves", net.leave(0), 2);
        Check.due("none is left, as the last one ENDS", net.leave(2), 0);
        Check.due("the last leg", net.stateOf(3), MeshBiller.ENDED);
        Check.due("its slice went back too", net.free(3), 10000 - 30);
        Check.due("nothing is aside", net.aside(3), 0);
        Check.refuses("leave(-1)", Check.INDEX, CallsTest::inCall, x -> x.leave(-1));
        Check.refuses("leave(10)", Check.INDEX, CallsTest::inCall, x -> x.leave(10));
        Check.refuses("leave of a phone in no call", Check.STATE, CallsTest::inCall, x -> x.leave(2));
        Check.refuses("leave of a phone that left", Check.STATE, () -> withCalls(1), x -> x.leave(0));
    }

    private static void promise18Move() {
        MeshBiller net = inCall();
        Check.due("a phone in no call goes anywhere", net.move(5, 1), false);
        Check.due("it is there", net.cellOf(5), 1);
        Check.due("the cell in which it is", net.move(5, 1), false);
        Check.due("the cell in which it is, in a call", net.move(0, 0), true);
        Check.due("that is no event", net.seal(0), new Seal(0).event(0, 0, 0).done());
        Check.due("to a neighbour", net.move(0, 7), true);
        Check.due("round the ring", net.move(0, 0), true);
        Check.due("and on", net.move(0, 1), true);
        Check.due("the leg goes on", net.stateOf(0), MeshBiller.GOES_ON);
        Check.due("it is counted in the new cell", net.setChannels(1, 3, 3), 2);
        net.move(2, 1);
        Check.due("a guarded channel", net.move(0, 2), true);
        Check.due("and back", net.move(0, 1), true);
        Check.refuses("move(-1, 0)", Check.INDEX, CallsTest::inCall, x -> x.move(-1, 0));
        Check.refuses("move(10, 0)", Check.INDEX, CallsTest::inCall, x -> x.move(10, 0));
        Check.refuses("move(0, -1)", Check.INDEX, CallsTest::inCall, x -> x.move(0, -1));
        Check.refuses("move(0, 8)", Check.INDEX, CallsTest::inCall, x -> x.move(0, 8));
    }

    private static void promise18Dropped() {
        MeshBiller net = inCall();
        net.join(2, 0, false);
        net.pass(4);
        Check.due("two cells on", net.move(0, 2), false);
        Check.due("DROPPED", net.stateOf(0), MeshBiller.DROPPED);
        Check.due("its slice went back", net.free(0), 10000 - 40);
        Check.due("the phone came to the cell", net.cellOf(0), 2);
        Check.due("it is in no call", net.legOf(0), MeshBiller.NONE);
        Check.due("two go on", net.parties(0), 2);
        net.setChannels(2, 1, 0);
        Check.due("to a full neighbour", net.move(1, 2), false);
        Check.due("DROPPED too", net.stateOf(1), MeshBiller.DROPPED);
        Check.due("the last one ENDS", net.stateOf(2), MeshBiller.ENDED);
        Check.due("the call is over", net.parties(0), 0);
        Check.due("no leg is in the cell", net.setChannels(2, 3, 0), 0);
        net.begin(0, 1, false);
        net.setChannels(3, 0, 0);
        Check.due("no channels at all", net.move(0, 3), false);
    }

    private static void promise19Pass() {
        MeshBiller net = inCall();
        Check.due("500 seconds", net.pass(500), 0);
        Check.due("lived", net.now(), 500);
        Check.due("rated", net.seconds(0), 500);
        Check.due("the phone 1 has paid 10000", net.pass(1), 1);
        Check.due("it is CUT", net.stateOf(1), MeshBiller.CUT);
        Check.due("the phone 0 ENDS behind its turn", net.seconds(0), 501);
        Check.due("no leg goes on", net.pass(1), 0);
        Check.refuses("pass(0)", Check.ARGUMENT, CallsTest::inCall, x -> x.pass(0));
        Check.refuses("pass(-1)", Check.ARGUMENT, CallsTest::inCall, x -> x.pass(-1));
        Check.refuses("pass(501)", Check.ARGUMENT, CallsTest::inCall, x -> x.pass(501));
        MeshBiller late = rich();
        Check.passLong(late, 49999);
        Check.due("above 50000", Check.thrownBy(late, x -> x.pass(2)), "IllegalStateException");
        Check.due("a wrong number is told first", Check.thrownBy(late, x -> x.pass(501)), "IllegalArgumentException");
        Check.due("nothing was lived", late.now(), 49999);
        late.begin(0, 1, false);
        Check.due("up to 50000", late.pass(1), 0);
        Check.due("the last second", late.now(), 50000);
        Check.due("was rated", late.seconds(0), 1);
        Check.due("no more", Check.thrownBy(late, x -> x.pass(1)), "IllegalStateException");
    }

    private static void promise19EndsAtOnce() {
        MeshBiller net = new MeshBiller();
        net.top(1, 1000);
        net.top(0, 50);
        net.begin(1, 0, false);
        Check.due("pass 5", net.pass(5), 0);
        Check.due("the phone 0 is CUT ahead of the turn of the phone 1", net.pass(1), 1);
        Check.due("CUT", net.stateOf(1), MeshBiller.CUT);
        Check.due("so that is not rated", net.seconds(0), 5);
        Check.due("its end is in the second 5", net.seal(0), new Seal(1).event(0, 0, 1).event(2, 5, 1).done());
        Check.due("that of the phone 0 too", net.seal(1), new Seal(0).event(0, 0, 0).event(2, 5, 0).done());
        MeshBiller other = new MeshBiller();
        other.top(1, 100);
        other.top(0, 1000);
        other.begin(1, 0, false);
        Check.due("6 seconds", other.pass(6), 1);
        Check.due("the phone 0 had its turn", other.seconds(1), 6);
        Check.due("its end is in the second 6", other.seal(1), new Seal(0).event(0, 0, 0).event(2, 6, 0).done());
        Check.due("the CUT one's in the second 5", other.seal(0), new Seal(1).event(0, 0, 1).event(2, 5, 1).done());
        MeshBiller three = new MeshBiller();
        three.top(0, 1000);
        three.top(1, 40);
        three.top(2, 60);
        three.begin(0, 1, false);
        three.join(2, 0, false);
        Check.due("two are CUT in the same second", three.pass(9), 2);
        Check.due("and the third ENDS", three.seconds(0), 3);
        Check.due("its slice goes back", three.free(0), 970);
    }

    private static void promise19Halving() {
        MeshBiller net = new MeshBiller();
        net.top(0, 200);
        net.begin(0, 4, true);
        Check.due("the host got 20 seconds and gave 10 back", net.sliceOf(0), 10);
        Check.due("they pay 5 of the other one", net.sliceOf(4), 5);
        Check.due("no money is left over", net.free(0), 0);
        net.join(8, 0, true);
        Check.due("of two with 100 mills that of the lowest phone gives 5", net.sliceOf(0), 5);
        Check.due("that of the other one stays", net.sliceOf(4), 5);
        Check.due("5 seconds for the phone 8", net.sliceOf(8), 5);
        Check.due("aside is all", net.aside(0), 200);
    }

    private static void promise19HalvingOfTheRichest() {
        MeshBiller net = new MeshBiller();
        net.setSlice(3);
        net.top(0, 30 + 60);
        net.setRate(2, false, 55);
        net.begin(0, 4, true);
        net.setWallet(2, 0);
        Check.due("the slices: 3 at the rate 10", net.sliceOf(0), 3);
        Check.due("3 at the rate 20", net.sliceOf(4), 3);
        net.join(2, 0, false);
        Check.due("the richest gives 1 of 3, then 1 of 2, then no more: 40", net.sliceOf(4), 1);
        Check.due("the next gives 1 of 3: 50, and 1 of 2: 60", net.sliceOf(0), 1);
        Check.due("one second at the rate 55", net.sliceOf(2), 1);
        Check.due("5 mills are left over", net.free(0), 5);
        MeshBiller none = new MeshBiller();
        none.setSlice(3);
        none.top(0, 30 + 60);
        none.setRate(2, false, 61);
        none.begin(0, 4, true);
        none.setWallet(2, 0);
        none.join(2, 0, false);
        Check.due("if all halves don't pay a second, it is CUT", none.stateOf(2), MeshBiller.CUT);
        Check.due("what they gave is free", none.free(0), 60);
        Check.due("and their slices are as short", none.sliceOf(4), 1);
    }

    private static void promise19HalvingInLivedSeconds() {
        MeshBiller net = new MeshBiller();
        net.top(0, 400);
        net.setSlice(20);
        net.begin(0, 8, true);
        net.setSlice(4);
        Check.due("20 seconds each", net.sliceOf(8), 20);
        net.pass(20);
        net.top(0, 30);
        net.pass(1);
        Check.due("the phone 0 took 3 seconds, used 1, and gave 1 of 2", net.sliceOf(0), 1);
        Check.due("the phone 8 had 1, and used it", net.sliceOf(8), 0);
        Check.due("both are rated", net.charged(0) + net.charged(1), 420);
        Check.due("then the phone 8 is CUT, as 0 has none to halve", net.pass(1), 1);
        Check.due("state", net.stateOf(1), MeshBiller.CUT);
    }

    private static void promise19NoHalving() {
        MeshBiller net = rich();
        net.give(2, 0, 10000);
        net.buy(1, 7, 50, 1, 0, 0);
        net.setRate(1, false, 0);
        net.setWallet(1, 2);
        net.begin(0, 1, false);
        Check.due("a slice at the rate 0", net.sliceOf(1), 20);
        net.join(2, 0, false);
        Check.due("a slice at the rate 0 is not halved", net.sliceOf(1), 20);
        Check.due("another wallet's slice is not halved", net.sliceOf(0), 20);
        Check.due("so it is CUT", net.stateOf(2), MeshBiller.CUT);
        net.begin(9, 5, false);
        Check.due("a slice from a bundle", net.sliceOf(9), 20);
        net.setRate(1, false, 20);
        net.give(1, 0, net.free(1));
        net.setWallet(3, 1);
        net.join(3, 1, false);
        Check.due("it is not halved", net.sliceOf(9), 20);
        Check.due("the bundle pays the phone 3", net.sliceOf(3), 10);
    }

    /** Others are halved only if the cap lets a second and the money pays none. */
    private static void promise19HalvingAndCaps() {
        MeshBiller net = new MeshBiller();
        net.top(0, 400);
        net.begin(0, 8, true);
        net.setCap(4, 19);
        Check.due("the leg of the phone 4", net.join(4, 0, true), 2);
        Check.due("the cap lets no second: CUT", net.stateOf(2), MeshBiller.CUT);
        Check.due("none is halved for it", net.sliceOf(0), 20);
        net.setCap(4, 39);
        net.join(4, 0, true);
        Check.due("the cap lets one second", net.sliceOf(4), 1);
        Check.due("the phone 0 gave a half for it", net.sliceOf(0), 10);
        Check.due("what is not needed is free", net.free(0), 80);
        MeshBiller exact = new MeshBiller();
        exact.top(0, 420);
        exact.begin(0, 8, true);
        exact.join(4, 0, true);
        Check.due("the money pays one second", exact.sliceOf(4), 1);
        Check.due("so none is halved", exact.sliceOf(0), 20);
        MeshBiller cheap = new MeshBiller();
        cheap.setRate(1, false, 1);
        cheap.top(0, 202);
        cheap.begin(0, 4, true);
        Check.due("two seconds at the rate 1", cheap.sliceOf(4), 2);
        cheap.pass(2);
        Check.due("the third one: the phone 0 has used one, and gives 8 of 17", cheap.pass(1), 0);
        Check.due("they pay a whole slice at the rate 1", cheap.sliceOf(4), 19);
        Check.due("and 60 are free", cheap.free(0), 60);
    }

    private static void promise19RateChanges() {
        MeshBiller net = rich();
        Check.passLong(net, 795);
        net.begin(0, 1, false);
        net.pass(5);
        Check.due("5 seconds at night", net.charged(0), 50);
        net.pass(1);
        Check.due("a new slice at the peak rate", net.sliceOf(0), 19);
        Check.due("charged at the peak rate", net.charged(0), 70);
        Check.due("aside at the peak rate", net.aside(0), 380);
        net.move(0, 7);
        Check.due("the slice stays until the second is lived", net.aside(0), 380);
        net.pass(1);
        Check.due("the rate of the zone 1", net.charged(0), 110);
        net.buy(0, 2, 30, 1, 0, 0);
        net.pass(1);
        Check.due("a slice of money goes on when a bundle is bought", net.charged(0), 150);
        net.setRate(1, true, 41);
        net.pass(1);
        Check.due("but a new slice is from the bundle", net.covered(0), 41);
        net.setRate(1, true, 5);
        net.pass(1);
        Check.due("a bundle's slice goes on when rates change", net.sliceOf(0), 18);
        Check.due("covered at the rates of then", net.covered(0), 46);
        Check.due("rated again", net.ratedByEvents(0), 150 + 46);
    }

    private static void promise20Now() {
        MeshBiller net = rich();
        net.pass(1);
        Check.due("now", net.now(), 1);
        net.pass(499);
        Check.due("now", net.now(), 500);
        net.begin(0, 1, true);
        Check.due("other calls take no time", net.now(), 500);
    }

    /** Behind the call 512 answers are free, but nothing may throw that no promise names. */
    private static void promises1To35BehindTheLastCall() {
        MeshBiller net = inCall();
        for (int i = 0; i < 5000; i++) {
            net.move(0, i % 2);
            net.setRate(i % 3, i % 2 == 0, i % 1001);
            net.top(i % 4, 1000000);
        }
        net.pass(500);
        net.ratedByEvents(0);
        net.lineAt(0, 5);
        net.leave(0);
        Check.holds("the seal of many events is answered", net.seal(0) == net.seal(0));
    }
}
