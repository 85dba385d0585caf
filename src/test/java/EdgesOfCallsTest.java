import java.util.function.Supplier;

/** Promises 15 to 20, at their edges: one test for each sentence that names one, which is told ahead of it. */
public final class EdgesOfCallsTest {
    public static void main(String[] args) {
        Check.runTests(EdgesOfCallsTest.class);
    }

    /** Promise 15, "host: 0 to 9", "Throws IndexOutOfBoundsException if there is no such phone, of either". */
    private static void promise15Host() {
        Check.range("the host", Scenes::rich, Check.INDEX, 0, 9, (x, v) -> x.begin(v, 5, true));
    }

    /** Promise 15, "other: 0 to 9", "Throws IndexOutOfBoundsException if there is no such phone, of either". */
    private static void promise15Other() {
        Check.range("the other one", Scenes::rich, Check.INDEX, 0, 9, (x, v) -> x.begin(5, v, false));
    }

    /** Promise 15, "Throws IllegalArgumentException if both are the same". */
    private static void promise15BothAreTheSame() {
        for (int phone = 0; phone < 10; phone++) {
            int p = phone;
            Check.refuses("the same", Check.ARGUMENT, Scenes::rich, x -> x.begin(p, p, true));
        }
    }

    /** Promise 15, "Throws IllegalStateException if one of both is in a call". */
    private static void promise15OneOfBothIsInACall() {
        Check.refuses("the host is a host", Check.STATE, Scenes::inCall, x -> x.begin(0, 2, true));
        Check.refuses("the host is another one", Check.STATE, Scenes::inCall, x -> x.begin(1, 2, true));
        Check.refuses("the other one is a host", Check.STATE, Scenes::inCall, x -> x.begin(2, 0, true));
        Check.refuses("the other one is another one", Check.STATE, Scenes::inCall, x -> x.begin(2, 1, false));
        Check.refuses("both, of one call", Check.STATE, Scenes::inCall, x -> x.begin(0, 1, false));
        Check.due("none of both", Scenes.inCall().begin(2, 3, false), 1);
        MeshBiller left = Scenes.inFullCall();
        left.leave(1);
        Check.due("one that left a call that goes on", left.begin(1, 4, false), 1);
        Check.due("both of a call that is over", Scenes.behindCall().begin(0, 1, false), 1);
    }

    private static MeshBiller withChannels(int cell, int channels, int guarded) {
        MeshBiller net = Scenes.rich();
        net.setChannels(cell, channels, guarded);
        return net;
    }

    /** Promise 15, ".. there are no channels for both": of two cells, each needs one. */
    private static void promise15ChannelsOfTwoCells() {
        for (int cell = 0; cell < 2; cell++) {
            int c = cell;
            Check.due("one", withChannels(c, 1, 0).begin(0, 1, false), 0);
            Check.refuses("none", Check.STATE, () -> withChannels(c, 0, 0), x -> x.begin(0, 1, false));
            Check.due("one of two is guarded", withChannels(c, 2, 1).begin(0, 1, false), 0);
            Check.refuses("all are guarded", Check.STATE, () -> withChannels(c, 10, 10), x -> x.begin(0, 1, false));
        }
    }

    /** Promise 15, ".. there are no channels for both": in one cell, both need one. */
    private static void promise15ChannelsOfOneCell() {
        Check.due("two", withChannels(0, 2, 0).begin(0, 8, false), 0);
        Check.refuses("one", Check.STATE, () -> withChannels(0, 1, 0), x -> x.begin(0, 8, false));
        Check.refuses("none", Check.STATE, () -> withChannels(0, 0, 0), x -> x.begin(8, 0, false));
        Check.due("two of three are not guarded", withChannels(0, 3, 1).begin(8, 0, false), 0);
        Check.refuses("one of three is not guarded", Check.STATE, () -> withChannels(0, 3, 2), x -> x.begin(8, 0, false));
        Supplier<MeshBiller> taken = () -> {
            MeshBiller net = Scenes.rich();
            net.move(2, 0);
            net.begin(2, 3, false);
            return net;
        };
        Check.due("one of three is taken", taken.get().begin(0, 8, false), 1);
        Check.refuses("two of three are taken", Check.STATE, () -> {
            MeshBiller net = taken.get();
            net.move(4, 0);
            net.begin(4, 5, false);
            return net;
        }, x -> x.begin(0, 8, false));
    }

    /** Promise 15, ".. there are no channels": legs beyond the channels leave less than none. */
    private static void promise15MoreLegsThanChannels() {
        Supplier<MeshBiller> beyond = () -> {
            MeshBiller net = Scenes.inCall();
            net.setChannels(0, 0, 0);
            return net;
        };
        Check.refuses("the host", Check.STATE, beyond, x -> x.begin(8, 2, false));
        Check.refuses("the other one", Check.STATE, beyond, x -> x.begin(2, 8, false));
        MeshBiller left = beyond.get();
        left.leave(0);
        Check.due("still none", Check.thrownBy(left, x -> x.begin(8, 2, false)), "IllegalStateException");
        left.setChannels(0, 1, 0);
        Check.due("one", left.begin(8, 2, false), 1);
    }

    /** Promise 15, ".. there were 40 calls": they need 80 legs, so both limits are met at once. */
    private static void promise15ThereWere40Calls() {
        Check.due("the call 40", Scenes.withCalls(39).begin(2, 3, false), 39);
        Check.refuses("the call 41", Check.STATE, () -> Scenes.withCalls(40), x -> x.begin(2, 3, false));
        MeshBiller poor = Scenes.empty();
        for (int i = 0; i < 40; i++) {
            Check.due("a call that is over at once is one", poor.begin(i % 10, (i + 1) % 10, false), i);
        }
        Check.due("the call 41", Check.thrownBy(poor, x -> x.begin(0, 1, false)), "IllegalStateException");
    }

    /** Promise 15, ".. there would be more than 80 legs": 78 and two are not, 79 and two are. */
    private static void promise15MoreThan80Legs() {
        MeshBiller net = Scenes.withLegs(78);
        Check.due("the legs 79 and 80", net.begin(3, 4, false), 1);
        Check.due("legs", net.legs(), 80);
        Check.due("the last one", net.legOf(4), 79);
        Check.refuses("the legs 80 and 81", Check.STATE, () -> Scenes.withLegs(79), x -> x.begin(3, 4, false));
        Check.refuses("the legs 81 and 82", Check.STATE, () -> Scenes.withLegs(80), x -> x.begin(3, 4, false));
    }

    /** Promise 15: which one is thrown first. */
    private static void promise15FirstOfSeveral() {
        Check.refuses("no such phone, twice", Check.INDEX, Scenes::rich, x -> x.begin(10, 10, true));
        Check.refuses("no such phone, twice", Check.INDEX, Scenes::rich, x -> x.begin(-1, -1, true));
        Check.refuses("no such host, other in a call", Check.INDEX, Scenes::inCall, x -> x.begin(10, 0, true));
        Check.refuses("host in a call, no such other", Check.INDEX, Scenes::inCall, x -> x.begin(0, -1, true));
        Check.refuses("the same, in a call", Check.ARGUMENT, Scenes::inCall, x -> x.begin(1, 1, true));
        Check.refuses("the same, no channels", Check.ARGUMENT, () -> withChannels(0, 0, 0), x -> x.begin(0, 0, true));
        Check.refuses("no such phone, 80 legs", Check.INDEX, () -> Scenes.withLegs(80), x -> x.begin(3, 10, true));
        Check.refuses("the same, 80 legs", Check.ARGUMENT, () -> Scenes.withLegs(80), x -> x.begin(3, 3, true));
        Check.refuses("no such phone, 40 calls", Check.INDEX, () -> Scenes.withCalls(40), x -> x.begin(-1, 3, true));
    }

    /** Promise 15, "its host gets the leg with the lower number, and its slice first". */
    private static void promise15ItsHostFirst() {
        MeshBiller net = Scenes.empty();
        net.setWallet(1, 0);
        net.setRate(1, false, 10);
        net.top(0, 205);
        Check.due("the number", net.begin(1, 0, false), 0);
        Check.due("the host has the leg 0", net.legOf(1), 0);
        Check.due("the other one has the leg 1", net.legOf(0), 1);
        Check.due("the host got 20 seconds, of which it gave 10", net.sliceOf(1), 10);
        Check.due("the other one got what these pay", net.sliceOf(0), 10);
        Check.due("what pays no second is free", net.free(0), 5);
    }

    /** Promise 16, "phone: 0 to 9", "Throws IndexOutOfBoundsException if there is no such phone". */
    private static void promise16Phone() {
        Supplier<MeshBiller> scene = () -> {
            MeshBiller net = Scenes.rich();
            net.begin(5, 6, false);
            return net;
        };
        Check.range("the phone", scene, Check.INDEX, 0, 9, (x, v) -> x.join(v, 0, true));
    }

    /** Promise 16, "call: a call", "Throws IndexOutOfBoundsException if .. there was no such call". */
    private static void promise16Call() {
        Check.range("of one", Scenes::inCall, Check.INDEX, 0, 0, (x, v) -> x.join(5, v, true));
        Check.range("of two", () -> {
            MeshBiller net = Scenes.inCall();
            net.begin(2, 3, false);
            return net;
        }, Check.INDEX, 0, 1, (x, v) -> x.join(5, v, true));
        Check.refuses("of none", Check.INDEX, Scenes::rich, x -> x.join(5, 0, true));
        Check.refuses("of 40", Check.INDEX, () -> Scenes.withCalls(40), x -> x.join(5, 40, true));
    }

    /** Promise 16, "Throws IllegalStateException if it is in a call", this one or another one. */
    private static void promise16ItIsInACall() {
        Check.refuses("its host", Check.STATE, Scenes::inCall, x -> x.join(0, 0, true));
        Check.refuses("its other one", Check.STATE, Scenes::inCall, x -> x.join(1, 0, false));
        Supplier<MeshBiller> two = () -> {
            MeshBiller net = Scenes.inCall();
            net.begin(2, 3, false);
            return net;
        };
        Check.refuses("one of the other call", Check.STATE, two, x -> x.join(2, 0, true));
        Check.refuses("one of the first call", Check.STATE, two, x -> x.join(1, 1, true));
    }

    /** Promise 16, ".. the call is over": each way in which it can be. */
    private static void promise16TheCallIsOver() {
        Check.refuses("its phones left", Check.STATE, Scenes::behindCall, x -> x.join(2, 0, true));
        Check.refuses("a phone that was in it", Check.STATE, Scenes::behindCall, x -> x.join(0, 0, true));
        Check.refuses("it got no slice", Check.STATE, () -> {
            MeshBiller net = Scenes.empty();
            net.begin(0, 1, false);
            return net;
        }, x -> x.join(2, 0, true));
        Check.refuses("one was DROPPED", Check.STATE, () -> {
            MeshBiller net = Scenes.inCall();
            net.move(0, 4);
            return net;
        }, x -> x.join(2, 0, true));
        MeshBiller two = Scenes.inFullCall();
        two.leave(0);
        two.leave(1);
        Check.due("one of two others: it is not over", two.join(4, 0, false), 4);
    }

    /** Promise 16, ".. or has 4 phones": three are not, four are; those that left do not count. */
    private static void promise16ItHas4Phones() {
        MeshBiller net = Scenes.inCall();
        Check.due("the third", net.join(2, 0, false), 2);
        Check.due("the fourth", net.join(3, 0, false), 3);
        Check.refuses("the fifth", Check.STATE, Scenes::inFullCall, x -> x.join(4, 0, false));
        net.leave(2);
        Check.due("a fifth, when one has left", net.join(4, 0, false), 4);
        Check.due("no sixth", Check.thrownBy(net, x -> x.join(2, 0, false)), "IllegalStateException");
    }

    /** Promise 16, ".. there is no channel". */
    private static void promise16ThereIsNoChannel() {
        Supplier<MeshBiller> taken = () -> {
            MeshBiller net = Scenes.inCall();
            net.move(2, 0);
            net.move(3, 0);
            net.join(2, 0, false);
            return net;
        };
        Check.due("the third of three channels", taken.get().join(3, 0, false), 3);
        Check.refuses("the fourth", Check.STATE, () -> {
            MeshBiller net = taken.get();
            net.begin(8, 4, false);
            return net;
        }, x -> x.join(3, 1, false));
        Check.refuses("the third is guarded", Check.STATE, () -> {
            MeshBiller net = taken.get();
            net.setChannels(0, 3, 1);
            return net;
        }, x -> x.join(3, 0, false));
        Check.refuses("no channel at all", Check.STATE, () -> {
            MeshBiller net = Scenes.inCall();
            net.setChannels(2, 0, 0);
            return net;
        }, x -> x.join(2, 0, true));
        Check.refuses("more legs than channels", Check.STATE, () -> {
            MeshBiller net = taken.get();
            net.setChannels(0, 1, 0);
            return net;
        }, x -> x.join(3, 0, false));
    }

    /** Promise 16, ".. or there were 80 legs": 79 are not. */
    private static void promise16ThereWere80Legs() {
        Check.due("the leg 80", Scenes.withLegs(79).join(3, 0, false), 79);
        Check.refuses("the leg 81", Check.STATE, () -> Scenes.withLegs(80), x -> x.join(3, 0, false));
    }

    /** Promise 16: which one is thrown first. */
    private static void promise16FirstOfSeveral() {
        Check.refuses("phone and call", Check.INDEX, Scenes::inCall, x -> x.join(10, 1, true));
        Check.refuses("no such phone, over", Check.INDEX, Scenes::behindCall, x -> x.join(10, 0, true));
        Check.refuses("in a call, no such call", Check.INDEX, Scenes::inCall, x -> x.join(0, 1, true));
        Check.refuses("no such phone, 4 phones", Check.INDEX, Scenes::inFullCall, x -> x.join(-1, 0, true));
        Check.refuses("no such call, 80 legs", Check.INDEX, () -> Scenes.withLegs(80), x -> x.join(3, 1, true));
        Check.refuses("no such call, no channel", Check.INDEX, () -> withChannels(2, 0, 0), x -> x.join(2, 0, true));
    }

    /** Promise 16, "Returns the number of the leg", also if it is CUT at once. */
    private static void promise16NumberOfACutLeg() {
        MeshBiller net = Scenes.inCall();
        net.setCap(2, 0);
        Check.due("the number", net.join(2, 0, false), 2);
        Check.due("CUT", net.stateOf(2), MeshBiller.CUT);
        Check.due("two are left", net.parties(0), 2);
        Check.due("the next number", net.join(3, 0, false), 3);
    }

    /** Promise 17, "phone: 0 to 9", "Throws IndexOutOfBoundsException if there is no such phone". */
    private static void promise17Phone() {
        for (int phone : new int[] {-1, 10, Integer.MIN_VALUE, Integer.MAX_VALUE}) {
            Check.refuses("the phone " + phone, Check.INDEX, Scenes::inCall, x -> x.leave(phone));
        }
        MeshBiller net = Scenes.rich();
        net.begin(9, 0, false);
        Check.due("the most", net.leave(9), 0);
        net.begin(9, 0, false);
        Check.due("the least", net.leave(0), 0);
    }

    /** Promise 17, "Throws IllegalStateException if it is in none": not yet, or no more. */
    private static void promise17ItIsInNone() {
        Check.refuses("not yet", Check.STATE, Scenes::inCall, x -> x.leave(2));
        Check.refuses("it left", Check.STATE, Scenes::behindCall, x -> x.leave(0));
        Check.refuses("it was the last one", Check.STATE, Scenes::behindCall, x -> x.leave(1));
        Check.refuses("it was DROPPED", Check.STATE, () -> {
            MeshBiller net = Scenes.inFullCall();
            net.move(2, 6);
            return net;
        }, x -> x.leave(2));
        Check.refuses("it was CUT", Check.STATE, () -> {
            MeshBiller net = Scenes.inFullCall();
            net.setCap(2, 0);
            net.pass(21);
            return net;
        }, x -> x.leave(2));
    }

    /** Promise 17, "Returns how many phones are in the call then": 3, 2, and then none, not one. */
    private static void promise17PhonesThen() {
        MeshBiller net = Scenes.inFullCall();
        Check.due("of four", net.leave(3), 3);
        Check.due("of three", net.leave(0), 2);
        Check.due("of two", net.leave(2), 0);
        Check.due("the last one ENDS", net.stateOf(1), MeshBiller.ENDED);
    }

    /** Promise 18, "phone: 0 to 9", "Throws IndexOutOfBoundsException if there is no such phone or cell". */
    private static void promise18Phone() {
        Check.range("the phone", Scenes::inCall, Check.INDEX, 0, 9, (x, v) -> x.move(v, 5));
    }

    /** Promise 18, "cell: 0 to 7", "Throws IndexOutOfBoundsException if there is no such phone or cell". */
    private static void promise18Cell() {
        Check.range("the cell, in a call", Scenes::inCall, Check.INDEX, 0, 7, (x, v) -> x.move(0, v));
        Check.range("the cell, in none", Scenes::inCall, Check.INDEX, 0, 7, (x, v) -> x.move(5, v));
    }

    /** Promise 18, "the cell in which it is: nothing happens", also without a channel. */
    private static void promise18TheCellInWhichItIs() {
        Supplier<MeshBiller> scene = () -> {
            MeshBiller net = Scenes.inCall();
            net.setChannels(0, 0, 0);
            net.pass(3);
            return net;
        };
        Check.due("in a call", scene.get().move(0, 0), true);
        Check.due("in none", scene.get().move(8, 0), false);
        Check.due("nothing happens", Probe.of(() -> {
            MeshBiller net = scene.get();
            net.move(0, 0);
            net.move(8, 0);
            return net;
        }), Probe.of(scene));
    }

    /** Promise 18, "Returns whether it is in a call then". */
    private static void promise18WhetherItIsInACall() {
        Check.due("in none", Scenes.inCall().move(5, 6), false);
        Check.due("in none, far away", Scenes.inCall().move(5, 1), false);
        Check.due("its leg goes on", Scenes.inCall().move(0, 7), true);
        Check.due("its leg is DROPPED", Scenes.inCall().move(0, 2), false);
        Check.due("its leg is over", Scenes.behindCall().move(0, 1), false);
    }

    /** Promise 18: a phone in no call comes to any cell, without a channel too. */
    private static void promise18NoCallNoChannel() {
        for (int cell = 0; cell < 8; cell++) {
            MeshBiller net = withChannels(cell, 0, 0);
            Check.due("move", net.move(2, cell), false);
            Check.due("cellOf", net.cellOf(2), cell);
        }
    }

    /** Promise 19, "seconds: 1 to 500", "Throws IllegalArgumentException if seconds is out of range". */
    private static void promise19Seconds() {
        Check.range("seconds", Scenes::inCall, Check.ARGUMENT, 1, 500, (x, v) -> x.pass(v));
        MeshBiller net = Scenes.inCall();
        net.pass(1);
        Check.due("the least", net.seconds(0), 1);
        net.pass(500);
        Check.due("the most", net.seconds(0), 501);
        Check.due("now", net.now(), 501);
    }

    private static MeshBiller lateInCall(int second) {
        MeshBiller net = Scenes.at(second);
        net.begin(0, 1, false);
        return net;
    }

    /** Promise 19, "Throws IllegalStateException if the second would be above 50000": 50000 is not. */
    private static void promise19Above50000() {
        MeshBiller net = lateInCall(49500);
        Check.due("up to it at once", net.pass(500), 0);
        Check.due("now", net.now(), 50000);
        Check.due("all were lived", net.seconds(0), 500);
        Check.refuses("one above", Check.STATE, () -> lateInCall(49501), x -> x.pass(500));
        Check.refuses("the last one and one more", Check.STATE, () -> lateInCall(49999), x -> x.pass(2));
        Check.refuses("no second more", Check.STATE, () -> lateInCall(50000), x -> x.pass(1));
        Check.refuses("500 more", Check.STATE, () -> lateInCall(50000), x -> x.pass(500));
        Check.due("the last one", lateInCall(49999).pass(1), 0);
    }

    /** Promise 19: which one is thrown first. */
    private static void promise19FirstOfSeveral() {
        Check.refuses("501", Check.ARGUMENT, () -> lateInCall(50000), x -> x.pass(501));
        Check.refuses("0", Check.ARGUMENT, () -> lateInCall(50000), x -> x.pass(0));
        Check.refuses("far above", Check.ARGUMENT, () -> lateInCall(50000), x -> x.pass(Integer.MAX_VALUE));
    }

    /** Promise 19, "Returns how many legs are CUT in them": none, one, and those of several seconds and calls. */
    private static void promise19HowManyAreCut() {
        Check.due("no leg", Scenes.empty().pass(500), 0);
        MeshBiller net = Scenes.inFullCall();
        net.begin(4, 5, false);
        net.setCap(0, 0);
        net.setCap(2, 0);
        net.setCap(4, 0);
        Check.due("20 seconds", net.pass(20), 0);
        net.setCap(1, 420);
        Check.due("two of one call, one of the other", net.pass(1), 3);
        Check.due("the one that was left alone is not CUT", net.stateOf(5), MeshBiller.ENDED);
        Check.due("none is CUT in time", net.pass(500), 1);
        Check.due("the last one", net.stateOf(3), MeshBiller.ENDED);
        net.begin(0, 1, false);
        Check.due("those that are CUT when they begin do not count", net.pass(1), 0);
    }

    /** Promise 20, "the second of now": from 0 to 50000. */
    private static void promise20Now() {
        Check.due("the least", Scenes.empty().now(), 0);
        Check.due("the most", Scenes.at(50000).now(), 50000);
        MeshBiller net = Scenes.at(50000);
        net.begin(0, 1, false);
        Check.due("calls begin in it", net.stateOf(0), MeshBiller.GOES_ON);
        Check.due("and end in it", net.leave(0), 0);
        Check.due("their seal", net.seal(0), new Seal(0).event(0, 50000, 0).event(2, 50000, 0).done());
    }
}
