/** Promises 21 to 35, at their edges: one test for each sentence that names one, which is told ahead of it. */
public final class EdgesOfReadersTest {
    public static void main(String[] args) {
        Check.runTests(EdgesOfReadersTest.class);
    }

    /** Promise 21, "phone: 0 to 9", "Throws IndexOutOfBoundsException if there is no such phone". */
    private static void promise21Phone() {
        Check.range("the phone", Scenes::inCall, Check.INDEX, 0, 9, (x, v) -> x.cellOf(v));
    }

    /** Promise 21, "the cell in which a phone is", also when its leg was DROPPED on the way. */
    private static void promise21BehindADrop() {
        MeshBiller net = Scenes.inCall();
        net.move(0, 4);
        Check.due("the cell to which it came", net.cellOf(0), 4);
        Check.due("the other one stays", net.cellOf(1), 1);
    }

    /** Promise 22, "phone: 0 to 9", "Throws IndexOutOfBoundsException if there is no such phone". */
    private static void promise22Phone() {
        Check.range("the phone", Scenes::inCall, Check.INDEX, 0, 9, (x, v) -> x.rateOf(v));
    }

    /** Promise 22, "the rate of now": 0 to 1000, in a call or not, whatever its slice costs. */
    private static void promise22RateOfNow() {
        MeshBiller net = Scenes.inCall();
        net.setRate(0, false, 1000);
        Check.due("the most, in a call", net.rateOf(0), 1000);
        Check.due("the most, in none", net.rateOf(8), 1000);
        net.setRate(0, false, 0);
        Check.due("the least, in a call", net.rateOf(0), 0);
        Check.due("the least, in none", net.rateOf(8), 0);
    }

    /** Promise 23, "phone: 0 to 9", "Throws IndexOutOfBoundsException if there is no such phone". */
    private static void promise23Phone() {
        Check.range("the phone", Scenes::inCall, Check.INDEX, 0, 9, (x, v) -> x.legOf(v));
    }

    /** Promise 23, "NONE if it is in no call": not yet, or no more, however its leg was over. */
    private static void promise23None() {
        MeshBiller net = Scenes.inFullCall();
        Check.due("not yet", net.legOf(4), MeshBiller.NONE);
        Check.due("the leg 0", net.legOf(0), 0);
        net.setCap(0, 0);
        net.pass(21);
        Check.due("CUT", net.legOf(0), MeshBiller.NONE);
        net.move(1, 4);
        Check.due("DROPPED", net.legOf(1), MeshBiller.NONE);
        net.leave(2);
        Check.due("it left", net.legOf(2), MeshBiller.NONE);
        Check.due("it was the last one", net.legOf(3), MeshBiller.NONE);
        net.begin(3, 1, false);
        Check.due("the one that it has now", net.legOf(3), 4);
        MeshBiller last = Scenes.withLegs(79);
        last.join(2, 0, false);
        Check.due("the leg with the highest number", last.legOf(2), 79);
    }

    /** Promise 24, "phone: 0 to 9", "Throws IndexOutOfBoundsException if there is no such phone". */
    private static void promise24Phone() {
        Check.range("the phone", Scenes::inCall, Check.INDEX, 0, 9, (x, v) -> x.sliceOf(v));
    }

    /** Promise 24, "how many seconds the slice .. has left": all, one, none, and "0 if it is in no call". */
    private static void promise24SecondsLeft() {
        MeshBiller net = Scenes.inCall();
        Check.due("in no call", net.sliceOf(2), 0);
        Check.due("all", net.sliceOf(0), 20);
        net.pass(19);
        Check.due("one", net.sliceOf(0), 1);
        net.pass(1);
        Check.due("none, in a call", net.sliceOf(0), 0);
        Check.due("the leg goes on", net.stateOf(0), MeshBiller.GOES_ON);
        net.pass(1);
        Check.due("the next one", net.sliceOf(0), 19);
        net.leave(0);
        Check.due("in no call any more", net.sliceOf(0) + net.sliceOf(1), 0);
    }

    /** Promise 25, "call: a call", "Throws IndexOutOfBoundsException if there was no such call". */
    private static void promise25Call() {
        Check.range("of one", Scenes::inCall, Check.INDEX, 0, 0, (x, v) -> x.parties(v));
        Check.range("of 40", () -> Scenes.withCalls(40), Check.INDEX, 0, 39, (x, v) -> x.parties(v));
        Check.refuses("of none", Check.INDEX, Scenes::rich, x -> x.parties(0));
    }

    /** Promise 25, "Returns how many; 0 if it is over": 2 to 4, then none. */
    private static void promise25HowMany() {
        MeshBiller net = Scenes.inCall();
        Check.due("the least", net.parties(0), 2);
        net.join(2, 0, false);
        net.join(3, 0, false);
        Check.due("the most", net.parties(0), 4);
        net.leave(0);
        net.leave(1);
        Check.due("without those that began it", net.parties(0), 2);
        net.leave(2);
        Check.due("over", net.parties(0), 0);
        MeshBiller poor = Scenes.empty();
        poor.begin(0, 1, false);
        Check.due("over at once", poor.parties(0), 0);
    }

    /** Promise 26, "the number of legs": none, and 80. */
    private static void promise26Legs() {
        Check.due("none", Scenes.rich().legs(), 0);
        Check.due("79", Scenes.withLegs(79).legs(), 79);
        Check.due("80", Scenes.withLegs(80).legs(), 80);
        MeshBiller net = Scenes.withLegs(80);
        Check.thrownBy(net, x -> x.join(3, 0, false));
        Check.due("no more", net.legs(), 80);
    }

    /** Promises 27 to 33, "leg: a leg", "Throws IndexOutOfBoundsException if there was no such leg". */
    private static void promise27Leg() {
        legs("stateOf", (x, v) -> x.stateOf(v));
    }

    private static void promise28Leg() {
        legs("seconds", (x, v) -> x.seconds(v));
    }

    private static void promise29Leg() {
        legs("charged", (x, v) -> x.charged(v));
    }

    private static void promise30Leg() {
        legs("covered", (x, v) -> x.covered(v));
    }

    private static void promise31Leg() {
        legs("ratedByEvents", (x, v) -> x.ratedByEvents(v));
    }

    private static void promise32Leg() {
        legs("tag", (x, v) -> x.tag(v));
    }

    private static void promise33Leg() {
        legs("seal", (x, v) -> x.seal(v));
    }

    private static void promise35Leg() {
        legs("lineAt", (x, v) -> x.lineAt(v, 0));
    }

    private static void legs(String what, Check.Argument of) {
        Check.range(what + " of two", Scenes::inCall, Check.INDEX, 0, 1, of);
        Check.range(what + " of 80", () -> Scenes.withLegs(80), Check.INDEX, 0, 79, of);
        Check.refuses(what + " of none", Check.INDEX, Scenes::rich, x -> of.call(x, 0));
    }

    /** Promise 27, "Returns GOES_ON, ENDED, CUT or DROPPED", which stays when the leg is over. */
    private static void promise27StatesStay() {
        MeshBiller net = Scenes.inFullCall();
        net.setCap(0, 0);
        net.pass(21);
        net.move(1, 4);
        Check.due("CUT", net.stateOf(0), MeshBiller.CUT);
        Check.due("DROPPED", net.stateOf(1), MeshBiller.DROPPED);
        Check.due("GOES_ON", net.stateOf(2), MeshBiller.GOES_ON);
        net.leave(2);
        Check.due("ENDED", net.stateOf(2), MeshBiller.ENDED);
        net.setCap(0, MeshBiller.NONE);
        net.begin(0, 1, false);
        net.pass(1);
        Check.due("CUT, when the phone is in another call", net.stateOf(0), MeshBiller.CUT);
        Check.due("DROPPED, when the phone is in another call", net.stateOf(1), MeshBiller.DROPPED);
        Check.due("the new leg", net.stateOf(4), MeshBiller.GOES_ON);
    }

    /** Promises 28 to 31: a leg that was never rated, and one of a second. */
    private static void promise28NoneAndOne() {
        MeshBiller net = Scenes.inCall();
        Check.due("none", net.seconds(0), 0);
        net.pass(1);
        Check.due("one", net.seconds(0), 1);
        net.leave(0);
        net.pass(1);
        Check.due("no more behind the end", net.seconds(0), 1);
    }

    private static void promise29NoneAndOne() {
        MeshBiller net = Scenes.inCall();
        Check.due("what is only set aside is not charged", net.charged(0), 0);
        net.pass(1);
        Check.due("one second", net.charged(0), 10);
        Check.due("nothing is covered", net.covered(0), 0);
    }

    private static void promise30NoneAndOne() {
        MeshBiller net = Scenes.rich();
        net.buy(0, 1, 1, 1, 0, 0);
        net.begin(0, 1, false);
        Check.due("what is only set aside is not covered", net.covered(0), 0);
        net.pass(1);
        Check.due("one second", net.covered(0), 10);
        Check.due("nothing is charged", net.charged(0), 0);
        net.pass(1);
        Check.due("the bundle is used up", net.covered(0), 10);
        Check.due("money goes on", net.charged(0), 10);
    }

    /** Promise 30, "at its rates": at those of each second, 0 to 1000. */
    private static void promise30AtItsRates() {
        MeshBiller net = Scenes.rich();
        net.buy(0, 1, 100, 1, 0, 0);
        net.begin(0, 1, false);
        net.setRate(0, false, 1000);
        net.pass(1);
        Check.due("the most", net.covered(0), 1000);
        net.setRate(0, false, 0);
        net.pass(1);
        Check.due("the least", net.covered(0), 1000);
        Check.due("rated again", net.ratedByEvents(0), 1000);
        Check.due("from one slice", net.sliceOf(0), 18);
    }

    private static void promise31NoneAndOne() {
        MeshBiller net = Scenes.inCall();
        Check.due("none", net.ratedByEvents(0), 0);
        net.pass(1);
        Check.due("one second", net.ratedByEvents(0), 10);
        net.leave(0);
        net.pass(1);
        Check.due("no more behind the end", net.ratedByEvents(0), 10);
        MeshBiller poor = Scenes.empty();
        poor.begin(0, 1, false);
        poor.pass(1);
        Check.due("CUT at once", poor.ratedByEvents(0), 0);
        Check.due("ENDED at once", poor.ratedByEvents(1), 0);
    }

    /** Promise 31, "charged and covered together", of a leg as long as can be. */
    private static void promise31TheLongest() {
        MeshBiller net = Scenes.rich();
        net.top(1, Scenes.MONEY);
        net.buy(0, 1, 5000, 3, 0, 0);
        net.begin(0, 1, false);
        Check.passLong(net, 50000);
        int rated = 20 * (1200 * 10 + 1200 * 20) + 800 * 10 + 1200 * 20;
        Check.due("by the hours of 20 days and 20 hours", net.ratedByEvents(0), rated);
        Check.due("charged and covered", net.charged(0) + net.covered(0), rated);
        Check.due("covered is what 5000 seconds cost", net.covered(0), 2 * 36000 + 200 * 10);
        Check.due("of the other one", net.ratedByEvents(1), 2 * rated);
    }

    /** Promise 34, "call: a call", "Throws IndexOutOfBoundsException if there was no such call". */
    private static void promise34Call() {
        Check.range("of one", Scenes::inCall, Check.INDEX, 0, 0, (x, v) -> x.stamp(v));
        Check.range("of 40", () -> Scenes.withCalls(40), Check.INDEX, 0, 39, (x, v) -> x.stamp(v));
        Check.refuses("of none", Check.INDEX, Scenes::rich, x -> x.stamp(0));
    }

    /** Promise 35, "place: from 0", "Throws IndexOutOfBoundsException if .. place is below 0". */
    private static void promise35Place() {
        Check.due("0", Scenes.inCall().lineAt(0, 0), 'P');
        Check.refuses("-1", Check.INDEX, Scenes::inCall, x -> x.lineAt(0, -1));
        Check.refuses("the least int", Check.INDEX, Scenes::inCall, x -> x.lineAt(1, Integer.MIN_VALUE));
        Check.refuses("both", Check.INDEX, Scenes::inCall, x -> x.lineAt(2, -1));
        Check.refuses("no such leg, behind the last sign", Check.INDEX, Scenes::inCall, x -> x.lineAt(2, 1000));
    }

    /** Promise 35, "NONE behind the last one". */
    private static void promise35BehindTheLastOne() {
        MeshBiller net = Scenes.inCall();
        Check.due("the last one of P0C0:0=0+0~", net.lineAt(0, 10), '~');
        Check.due("behind it", net.lineAt(0, 11), MeshBiller.NONE);
        Check.due("far behind it", net.lineAt(0, Integer.MAX_VALUE), MeshBiller.NONE);
        net.pass(10);
        Check.due("the line has grown: P0C0:10=100+0~", net.lineAt(0, 13), '~');
        Check.due("behind it", net.lineAt(0, 14), MeshBiller.NONE);
    }
}
