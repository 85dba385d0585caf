/** Promises 21 to 35: what there is to read of phones, calls and legs. */
public final class LegsTest {
    public static void main(String[] args) {
        Check.runTests(LegsTest.class);
    }

    private static MeshBiller rich() {
        MeshBiller net = new MeshBiller();
        for (int wallet = 0; wallet < 4; wallet++) {
            net.top(wallet, 1000000);
        }
        return net;
    }

    private static MeshBiller inCall() {
        MeshBiller net = rich();
        net.begin(0, 1, false);
        return net;
    }

    private static void promises21To24Phones() {
        MeshBiller net = inCall();
        Check.due("cellOf", net.cellOf(9), 1);
        net.move(9, 6);
        Check.due("cellOf behind a move", net.cellOf(9), 6);
        Check.due("rateOf goes with the cell", net.rateOf(9), 10);
        net.setRate(0, false, 123);
        Check.due("rateOf goes with the rate", net.rateOf(9), 123);
        Check.due("legOf", net.legOf(1), 1);
        Check.due("sliceOf", net.sliceOf(1), 20);
        net.pass(7);
        Check.due("sliceOf of what is left", net.sliceOf(1), 13);
        net.leave(0);
        Check.due("legOf of the last one", net.legOf(1), MeshBiller.NONE);
        Check.due("sliceOf in no call", net.sliceOf(1), 0);
        net.begin(1, 2, false);
        Check.due("a new leg", net.legOf(1), 2);
        for (int phone : new int[] {-1, 10, Integer.MAX_VALUE, Integer.MIN_VALUE}) {
            Check.refuses("cellOf(" + phone + ")", Check.INDEX, LegsTest::inCall, x -> x.cellOf(phone));
            Check.refuses("rateOf(" + phone + ")", Check.INDEX, LegsTest::inCall, x -> x.rateOf(phone));
            Check.refuses("legOf(" + phone + ")", Check.INDEX, LegsTest::inCall, x -> x.legOf(phone));
            Check.refuses("sliceOf(" + phone + ")", Check.INDEX, LegsTest::inCall, x -> x.sliceOf(phone));
        }
    }

    private static void promise25Parties() {
        MeshBiller net = inCall();
        Check.due("two", net.parties(0), 2);
        net.join(2, 0, true);
        Check.due("three", net.parties(0), 3);
        net.begin(3, 4, true);
        Check.due("of another call", net.parties(1), 2);
        net.leave(2);
        net.leave(1);
        Check.due("over", net.parties(0), 0);
        Check.due("the other one goes on", net.parties(1), 2);
    }

    private static void promise26Legs() {
        MeshBiller net = inCall();
        Check.due("two", net.legs(), 2);
        net.join(2, 0, true);
        Check.due("three", net.legs(), 3);
        net.leave(2);
        net.leave(1);
        Check.due("also those that are over", net.legs(), 3);
    }

    private static void promise27StateOf() {
        MeshBiller net = inCall();
        net.join(2, 0, true);
        net.join(3, 0, true);
        Check.due("goes on", net.stateOf(3), MeshBiller.GOES_ON);
        net.setCap(2, 0);
        net.pass(21);
        Check.due("CUT", net.stateOf(2), MeshBiller.CUT);
        net.move(1, 5);
        Check.due("DROPPED", net.stateOf(1), MeshBiller.DROPPED);
        net.leave(3);
        Check.due("ENDED, as it left", net.stateOf(3), MeshBiller.ENDED);
        Check.due("ENDED, as it was the only one", net.stateOf(0), MeshBiller.ENDED);
        Check.due("the constants", "" + MeshBiller.NONE + MeshBiller.GOES_ON + MeshBiller.ENDED + MeshBiller.CUT
            + MeshBiller.DROPPED, "-10123");
    }

    private static void promises28To30Rated() {
        MeshBiller net = rich();
        net.buy(0, 1, 6, 1, 0, 0);
        net.begin(0, 1, false);
        net.pass(10);
        Check.due("seconds", net.seconds(0), 10);
        Check.due("covered by the bundle", net.covered(0), 60);
        Check.due("charged behind it", net.charged(0), 40);
        Check.due("the other leg is charged alone", net.charged(1), 200);
        Check.due("nothing of it is covered", net.covered(1), 0);
        net.leave(1);
        net.pass(10);
        Check.due("no seconds behind the end", net.seconds(0), 10);
        Check.due("no money behind the end", net.charged(0), 40);
    }

    private static void promise31RatedByEvents() {
        MeshBiller net = rich();
        Check.passLong(net, 790);
        net.begin(0, 1, false);
        net.pass(5);
        net.setRate(0, false, 11);
        net.pass(2);
        net.move(0, 1);
        net.pass(2);
        Check.due("of a leg that goes on, up to now", net.ratedByEvents(0), 5 * 10 + 2 * 11 + 2 * 20);
        net.setRate(1, true, 33);
        net.pass(6);
        Check.due("with peak hours", net.ratedByEvents(0), 50 + 22 + 3 * 20 + 5 * 33);
        Check.due("as it was charged", net.charged(0), net.ratedByEvents(0));
        net.leave(0);
        net.setRate(1, true, 500);
        net.pass(100);
        Check.due("up to its end", net.ratedByEvents(0), 50 + 22 + 60 + 165);
        Check.due("that of the other leg", net.ratedByEvents(1), 10 * 20 + 5 * 33);
    }

    private static void promise31SeveralEventsInASecond() {
        MeshBiller net = inCall();
        net.move(0, 1);
        net.move(0, 2);
        net.pass(1);
        Check.due("the last cell of the second counts", net.ratedByEvents(0), 30);
        net.setRate(2, false, 1);
        net.setRate(2, false, 2);
        net.move(0, 1);
        net.move(0, 2);
        net.pass(1);
        Check.due("the last rate of the second counts", net.ratedByEvents(0), 32);
        net.move(0, 5);
        Check.due("the DROPPED one ends ahead of the move", net.ratedByEvents(0), 32);
        MeshBiller poor = new MeshBiller();
        poor.begin(0, 1, false);
        Check.due("a leg of no second", poor.ratedByEvents(0), 0);
        poor.pass(5);
        Check.due("later too", poor.ratedByEvents(1), 0);
    }

    private static void promise31LongLeg() {
        MeshBiller net = inCall();
        Check.passLong(net, 2500);
        Check.due("a long leg", net.ratedByEvents(0), 800 * 10 + 1200 * 20 + 500 * 10);
        Check.due("as it was charged", net.charged(0), net.ratedByEvents(0));
    }

    private static void promise32Tag() {
        MeshBiller net = rich();
        net.begin(9, 0, false);
        Check.due("the number of the phone", net.tag(0), 9);
        Check.due("the number of the phone 0", net.tag(1), 0);
        net.pass(1);
        Check.due("3 * 9 + 20", net.tag(0), 47);
        net.pass(1);
        Check.due("3 * 47 + 20, as a byte", net.tag(0), 161 - 256);
        Check.due("3 * 10 + 10", net.tag(1), 40);
        net.pass(2);
        Check.due("3 * (3 * 40 + 10) + 10 = 400, as a byte", net.tag(1), 400 - 512);
        net.buy(0, 1, 100, 1, 0, 0);
        net.setRate(0, false, 1000);
        int before = net.tag(1);
        net.pass(1);
        Check.due("covered seconds count with their rate", net.tag(1), (byte) (3 * before + 1000));
        Check.due("covered", net.covered(1), 1000);
        before = net.tag(0);
        net.leave(9);
        net.pass(1);
        Check.due("no more behind the end", net.tag(0), before);
    }

    private static void promise33Seal() {
        MeshBiller net = rich();
        net.pass(17);
        net.begin(9, 8, false);
        Check.due("of a beginning", net.seal(0), new Seal(9).event(0, 17, 1).done());
        net.pass(3);
        net.move(9, 2);
        net.pass(100);
        net.move(9, 3);
        net.move(9, 2);
        Check.due("with other cells", net.seal(0),
            new Seal(9).event(0, 17, 1).event(1, 20, 2).event(1, 120, 3).event(1, 120, 2).done());
        net.pass(400);
        net.leave(8);
        Check.due("with an end", net.seal(0), new Seal(9).event(0, 17, 1).event(1, 20, 2).event(1, 120, 3)
            .event(1, 120, 2).event(2, 520, 2).done());
        Check.due("of the one that left", net.seal(1), new Seal(8).event(0, 17, 0).event(2, 520, 0).done());
        net.pass(10);
        net.move(9, 3);
        Check.due("nothing behind the end", net.seal(1), new Seal(8).event(0, 17, 0).event(2, 520, 0).done());
    }

    /** So many events that bits fall out above, and a seal with its sign set is turned. */
    private static void promise33ManyEvents() {
        MeshBiller net = inCall();
        Seal seal = new Seal(0).event(0, 0, 0);
        for (int i = 0; i < 40; i++) {
            net.pass(400);
            net.move(0, i % 2 == 0 ? 7 : 0);
            seal.event(1, 400 * (i + 1), i % 2 == 0 ? 7 : 0);
            Check.due("the seal behind the move " + i, net.seal(0), seal.done());
        }
    }

    private static void promise33Dropped() {
        MeshBiller net = inCall();
        net.join(2, 0, false);
        net.pass(40);
        net.move(2, 3);
        net.pass(1);
        net.move(2, 6);
        Check.due("the end in the cell ahead of the move", net.seal(2),
            new Seal(2).event(0, 0, 2).event(1, 40, 3).event(2, 41, 3).done());
        net.setCap(1, 0);
        Check.due("CUT when the slice is used up", net.pass(30), 1);
        Check.due("CUT in the second 60", net.seal(1), new Seal(1).event(0, 0, 1).event(2, 60, 1).done());
        Check.due("ENDED behind its turn", net.seal(0), new Seal(0).event(0, 0, 0).event(2, 61, 0).done());
    }

    private static void promise34Stamp() {
        MeshBiller net = inCall();
        net.join(2, 0, false);
        net.begin(3, 4, false);
        net.join(5, 0, false);
        net.pass(77);
        for (int i = 0; i < 12; i++) {
            net.leave(5);
            net.join(5, 0, false);
            net.pass(3);
        }
        net.move(0, 7);
        Check.due("the stamp of a call", net.stamp(0), stampOf(net, 0, 0, 1, 2, 5, 6, 7, 8, 9, 10, 11, 12, 13, 14, 15, 16,
            17));
        Check.due("the stamp of the other one", net.stamp(1), stampOf(net, 1, 3, 4));
        net.leave(3);
        Check.due("with the ends", net.stamp(1), stampOf(net, 1, 3, 4));
    }

    private static int stampOf(MeshBiller net, int call, int... legs) {
        long stamp = call + 1;
        for (int leg : legs) {
            stamp = Long.rotateLeft(stamp, 7) + net.seal(leg);
        }
        return (int) (stamp >> 32) ^ (int) stamp;
    }

    private static void promise35LineAt() {
        MeshBiller net = rich();
        net.buy(0, 1, 5, 1, 0, 0);
        net.begin(0, 1, false);
        net.begin(9, 5, false);
        Check.due("at first", Check.lineOf(net, 0), "P0C0:0=0+0~");
        net.pass(12);
        Check.due("with both", Check.lineOf(net, 0), "P0C0:12=70+50~");
        Check.due("of another call", Check.lineOf(net, 2), "P9C1:12=240+0~");
        net.move(9, 5);
        Check.due("DROPPED", Check.lineOf(net, 2), "P9C1:12=240+0?");
        Check.due("ENDED", Check.lineOf(net, 3), "P5C1:12=360+0.");
        net.setCap(1, 0);
        net.pass(20);
        Check.due("CUT", Check.lineOf(net, 1), "P1C0:20=400+0!");
        Check.due("the last sign", net.lineAt(1, 13), '!');
        Check.due("behind it", net.lineAt(1, 14), MeshBiller.NONE);
        Check.due("far behind it", net.lineAt(1, Integer.MAX_VALUE), MeshBiller.NONE);
        Check.refuses("lineAt(0, -1)", Check.INDEX, LegsTest::inCall, x -> x.lineAt(0, -1));
        Check.refuses("lineAt(2, 0)", Check.INDEX, LegsTest::inCall, x -> x.lineAt(2, 0));
        Check.refuses("lineAt(-1, 0)", Check.INDEX, LegsTest::inCall, x -> x.lineAt(-1, 0));
    }

    private static void promises25To34NoSuchLegOrCall() {
        for (int leg : new int[] {-1, 2, 80, Integer.MAX_VALUE, Integer.MIN_VALUE}) {
            Check.refuses("stateOf(" + leg + ")", Check.INDEX, LegsTest::inCall, x -> x.stateOf(leg));
            Check.refuses("seconds(" + leg + ")", Check.INDEX, LegsTest::inCall, x -> x.seconds(leg));
            Check.refuses("charged(" + leg + ")", Check.INDEX, LegsTest::inCall, x -> x.charged(leg));
            Check.refuses("covered(" + leg + ")", Check.INDEX, LegsTest::inCall, x -> x.covered(leg));
            Check.refuses("ratedByEvents(" + leg + ")", Check.INDEX, LegsTest::inCall, x -> x.ratedByEvents(leg));
            Check.refuses("tag(" + leg + ")", Check.INDEX, LegsTest::inCall, x -> x.tag(leg));
            Check.refuses("seal(" + leg + ")", Check.INDEX, LegsTest::inCall, x -> x.seal(leg));
            int call = leg == 2 ? 1 : leg;
            Check.refuses("parties(" + call + ")", Check.INDEX, LegsTest::inCall, x -> x.parties(call));
            Check.refuses("stamp(" + call + ")", Check.INDEX, LegsTest::inCall, x -> x.stamp(call));
        }
    }
}
