/**
 * The terms of slices, caps, the order of use and of how a second is lived, at their edges: one test for each
 * sentence that names one, which is told ahead of it.
 */
public final class EdgesOfSlicesTest {
    public static void main(String[] args) {
        Check.runTests(EdgesOfSlicesTest.class);
    }

    /** The phone 0 has begun a call to the phone 9, which costs nothing. */
    private static MeshBiller begun(MeshBiller net) {
        net.begin(0, 9, false);
        return net;
    }

    private static MeshBiller withBundle(int zones, int seconds) {
        MeshBiller net = Scenes.withMoney(1000);
        net.buy(0, zones, seconds, 1, 0, 0);
        return net;
    }

    /** "seconds that are set aside for it, all from one bundle, or all from free money". */
    private static void termSlicesAllFromOne() {
        MeshBiller net = withBundle(1, 5);
        net.buy(0, 1, 6, 1, 0, 0);
        begun(net);
        Check.due("of the first bundle alone", net.sliceOf(0), 5);
        net.pass(6);
        Check.due("then of the second one alone", net.sliceOf(0), 5);
        net.pass(6);
        Check.due("then of money alone", net.sliceOf(0), 19);
        Check.due("covered", net.covered(0), 110);
        Check.due("charged", net.charged(0), 10);
    }

    /** "A leg gets a slice when it begins, and in a second in which it has none with seconds left". */
    private static void termSlicesWhenNoneIsLeft() {
        MeshBiller net = begun(Scenes.withMoney(400));
        net.pass(20);
        Check.due("used up: no new one yet", net.sliceOf(0), 0);
        Check.due("the money is free", net.free(0), 200);
        net.pass(1);
        Check.due("in the next second", net.sliceOf(0), 19);
        Check.due("the money is aside", net.free(0), 0);
    }

    /** Slices 1: "as many as the length of slices tells, 20 at first, but no more than it has". */
    private static void termSlices1NoMoreThanItHas() {
        int[] has = {1, 2, 19, 20, 21, 5000};
        int[] gets = {1, 2, 19, 20, 20, 20};
        for (int i = 0; i < has.length; i++) {
            MeshBiller net = begun(withBundle(1, has[i]));
            Check.due("of " + has[i], net.sliceOf(0), gets[i]);
            Check.due("left", net.left(0), has[i] - gets[i]);
        }
    }

    /** Slices 1: "as the length of slices tells", the least and the most. */
    private static void termSlices1Length() {
        MeshBiller net = withBundle(1, 101);
        net.setSlice(100);
        begun(net);
        Check.due("the most", net.sliceOf(0), 100);
        Check.due("left", net.left(0), 1);
        MeshBiller least = withBundle(1, 101);
        least.setSlice(1);
        begun(least);
        Check.due("the least", least.sliceOf(0), 1);
        Check.due("left", least.left(0), 100);
    }

    /** Slices 1: the first bundle "that covers the zone of the phone": that of now, not that of the beginning. */
    private static void termSlices1CoversTheZone() {
        MeshBiller net = withBundle(6, 50);
        begun(net);
        Check.due("it does not cover the zone 0", net.left(0), 50);
        Check.due("money", net.aside(0), 200);
        net.move(0, 1);
        net.pass(1);
        Check.due("it covers the zone 1", net.left(0), 30);
        net.move(0, 0);
        net.pass(1);
        Check.due("it does not cover the zone 0", net.left(0), 49);
    }

    /** Slices 1: the first bundle that ".. is not over", in its last second and in the next one. */
    private static void termSlices1IsNotOver() {
        MeshBiller net = Scenes.at(2399);
        net.buy(0, 1, 50, 1, 0, 0);
        net.buy(0, 1, 50, 2, 1, 0);
        begun(net);
        Check.due("the first one, which is over later", net.left(0), 30);
        net.leave(0);
        net.pass(1);
        begun(net);
        Check.due("over: the next one", net.left(1), 30);
        Check.due("no money", net.aside(0), 0);
    }

    /** Slices 1: the first bundle that ".. has seconds left": all are used, or all are set aside. */
    private static void termSlices1HasSecondsLeft() {
        MeshBiller net = withBundle(1, 20);
        net.buy(0, 1, 50, 1, 1, 0);
        net.begin(0, 8, true);
        Check.due("all are set aside for the host", net.left(0), 0);
        Check.due("so the other one gets of the next bundle", net.left(1), 30);
        net.leave(0);
        Check.due("what is given back is there again", net.left(0), 20);
        net.begin(8, 9, false);
        Check.due("for the next leg", net.left(0), 0);
        net.pass(21);
        Check.due("all are used: the next bundle", net.left(1), 30);
    }

    /** Slices 1: ".. has seconds left": those that another leg gives back are there again. */
    private static void termSlices1SecondsThatComeBack() {
        MeshBiller net = withBundle(1, 25);
        net.begin(0, 8, true);
        Check.due("5 for the other one", net.sliceOf(8), 5);
        net.pass(5);
        Check.due("none is left", net.left(0), 0);
        net.join(9, 0, false);
        net.leave(0);
        Check.due("15 come back", net.left(0), 15);
        net.pass(1);
        Check.due("they are for the other one now", net.sliceOf(8), 14);
        Check.due("none is left", net.left(0), 0);
    }

    /** Slices 2: "no more than the free money pays at the rate of now": to the mill. */
    private static void termSlices2NoMoreThanMoneyPays() {
        int[] has = {1000, 201, 200, 199, 191, 190, 189, 20, 19, 11, 10};
        int[] gets = {20, 20, 20, 19, 19, 19, 18, 2, 1, 1, 1};
        for (int i = 0; i < has.length; i++) {
            MeshBiller net = begun(Scenes.withMoney(has[i]));
            Check.due("of " + has[i], net.sliceOf(0), gets[i]);
            Check.due("free", net.free(0), has[i] - 10 * gets[i]);
            Check.due("aside", net.aside(0), 10 * gets[i]);
        }
        for (int few : new int[] {0, 1, 9}) {
            MeshBiller net = begun(Scenes.withMoney(few));
            Check.due("CUT with " + few, net.stateOf(0), MeshBiller.CUT);
            Check.due("free", net.free(0), few);
        }
    }

    /** Slices 2: "as many seconds as the length tells", the least and the most, at the highest rate. */
    private static void termSlices2Length() {
        for (int few = 99998; few <= 100001; few++) {
            MeshBiller net = Scenes.withMoney(few);
            net.setRate(0, false, 1000);
            net.setSlice(100);
            begun(net);
            Check.due("of " + few, net.sliceOf(0), few < 100000 ? 99 : 100);
        }
        MeshBiller least = Scenes.withMoney(1000);
        least.setRate(0, false, 1000);
        least.setSlice(1);
        begun(least);
        Check.due("the least", least.sliceOf(0), 1);
    }

    /** Slices 2: "no more than the cap of the phone lets": to the mill. */
    private static void termSlices2NoMoreThanTheCapLets() {
        int[] caps = {MeshBiller.NONE, 1000000, 201, 200, 199, 191, 190, 189, 20, 19, 11, 10};
        int[] gets = {20, 20, 20, 20, 19, 19, 19, 18, 2, 1, 1, 1};
        for (int i = 0; i < caps.length; i++) {
            MeshBiller net = Scenes.withMoney(1000);
            net.setCap(0, caps[i]);
            begun(net);
            Check.due("with the cap " + caps[i], net.sliceOf(0), gets[i]);
            Check.due("aside", net.aside(0), 10 * gets[i]);
        }
        for (int few : new int[] {0, 1, 9}) {
            MeshBiller net = Scenes.withMoney(1000);
            net.setCap(0, few);
            begun(net);
            Check.due("CUT with the cap " + few, net.stateOf(0), MeshBiller.CUT);
        }
    }

    /** Slices 2: the less of money and cap counts. */
    private static void termSlices2MoneyAndCap() {
        MeshBiller money = Scenes.withMoney(50);
        money.setCap(0, 60);
        Check.due("money", begun(money).sliceOf(0), 5);
        MeshBiller cap = Scenes.withMoney(60);
        cap.setCap(0, 50);
        Check.due("cap", begun(cap).sliceOf(0), 5);
    }

    /** Slices 2: "(At the rate 0: as many as the length tells, for nothing.)", without money, with a cap of 0. */
    private static void termSlices2AtTheRate0() {
        MeshBiller net = Scenes.withMoney(0);
        net.setRate(0, false, 0);
        net.setCap(0, 0);
        net.setSlice(100);
        begun(net);
        Check.due("as many as the length tells", net.sliceOf(0), 100);
        net.pass(101);
        Check.due("again", net.sliceOf(0), 99);
        Check.due("for nothing", net.charged(0), 0);
        Check.due("rated", net.seconds(0), 101);
        Check.due("the money", net.free(0) + net.aside(0) + net.spent(0), 0);
        net.setRate(0, false, 1);
        Check.due("at the rate 1 it is CUT", net.pass(1), 1);
    }

    /** Slices 2: at the rate 0 others keep their seconds, and a cap that is passed lets all. */
    private static void termSlices2AtTheRate0Beyond() {
        MeshBiller net = begun(Scenes.withMoney(1000));
        net.pass(5);
        net.setCap(0, 20);
        net.setRate(0, false, 0);
        net.pass(1);
        Check.due("beyond its cap, for nothing", net.sliceOf(0), 19);
        Check.due("what it had left went back", net.free(0), 950);
    }

    /** The wallet 0 pays the phones 0 and 8, which are in a call, both in the zone 0. */
    private static MeshBiller shared(int money, int length) {
        MeshBiller net = new MeshBiller();
        net.top(0, money);
        net.setSlice(length);
        net.begin(0, 8, true);
        return net;
    }

    /** The wallet 0 has paid slices of the phones 0 and 8, of such lengths, and has no money left; then 20. */
    private static MeshBiller sharedBy(int first, int second) {
        MeshBiller net = Scenes.empty();
        net.top(0, 10 * (first + second));
        net.top(1, 1000);
        net.setSlice(first);
        net.begin(0, 1, false);
        net.setSlice(second);
        net.join(8, 0, false);
        net.setSlice(20);
        return net;
    }

    /** Slices 3: "2 seconds or more left .. gives half of its seconds back, rounded down": 2, 3, 4, 5, and 100. */
    private static void termSlices3HalfRoundedDown() {
        int[] has = {2, 3, 4, 5, 99, 100};
        int[] keeps = {1, 2, 2, 3, 50, 50};
        for (int i = 0; i < has.length; i++) {
            MeshBiller net = shared(10 * has[i], has[i]);
            Check.due("of " + has[i], net.sliceOf(0), keeps[i]);
            Check.due("the other one gets them", net.sliceOf(8), has[i] - keeps[i]);
            Check.due("all is aside", net.aside(0), 10 * has[i]);
        }
    }

    /** Slices 3: ".. 2 seconds or more left": one is too few. */
    private static void termSlices3OneSecondIsTooFew() {
        MeshBiller net = shared(10, 1);
        Check.due("the other one is CUT", net.stateOf(1), MeshBiller.CUT);
        Check.due("the host ENDS", net.stateOf(0), MeshBiller.ENDED);
        Check.due("its second went back", net.free(0), 10);
        MeshBiller none = shared(400, 20);
        none.pass(20);
        Check.due("none left: the first one is CUT", none.pass(1), 1);
        Check.due("and the other one ENDS", none.stateOf(1), MeshBiller.ENDED);
    }

    /** Slices 3: ".. 2 seconds or more left": one that has a single second, but the most money, is passed over. */
    private static void termSlices3ADearSingleSecond() {
        MeshBiller net = Scenes.empty();
        net.setRate(1, false, 100);
        net.top(0, 120);
        net.setSlice(2);
        net.begin(0, 9, true);
        Check.due("2 seconds at the rate 10", net.sliceOf(0), 2);
        Check.due("one second at the rate 100", net.sliceOf(9), 1);
        net.join(8, 0, true);
        Check.due("the phone 0 gave one", net.sliceOf(0), 1);
        Check.due("the phone 9 none", net.sliceOf(9), 1);
        Check.due("the phone 8 got it", net.sliceOf(8), 1);
    }

    /** Slices 3: "If the cap lets at least one second": one mill less, and none gives. */
    private static void termSlices3IfTheCapLets() {
        for (int cap = 9; cap <= 10; cap++) {
            MeshBiller net = shared(400, 20);
            net.move(4, 0);
            net.setCap(4, cap);
            net.join(4, 0, false);
            Check.due("the leg with the cap " + cap, net.stateOf(2), cap < 10 ? MeshBiller.CUT : MeshBiller.GOES_ON);
            Check.due("its slice", net.sliceOf(4), cap < 10 ? 0 : 1);
            Check.due("the phone 0", net.sliceOf(0), cap < 10 ? 20 : 10);
            Check.due("what is free", net.free(0), cap < 10 ? 0 : 90);
        }
    }

    /** Slices 3: "but the free money pays none": if it pays one, nobody gives; one mill less, and one does. */
    private static void termSlices3TheFreeMoneyPaysNone() {
        for (int spare = 9; spare <= 10; spare++) {
            MeshBiller net = shared(400 + spare, 20);
            net.join(4, 0, false);
            Check.due("the phone 4, at the rate 20, takes a half", net.sliceOf(0), 10);
            MeshBiller same = shared(400 + spare, 20);
            same.move(4, 0);
            same.join(4, 0, false);
            Check.due("at the rate 10", same.sliceOf(4), spare == 10 ? 1 : 10);
            Check.due("the phone 0", same.sliceOf(0), spare == 10 ? 20 : 10);
            Check.due("what is left over", same.free(0), spare == 10 ? 0 : 9);
        }
    }

    /** Slices 3: "as long as it pays none": no longer. */
    private static void termSlices3AsLongAsItPaysNone() {
        MeshBiller net = shared(400, 20);
        net.setRate(1, false, 100);
        net.join(4, 0, false);
        Check.due("100 mills of the phone 0 pay one second", net.sliceOf(4), 1);
        Check.due("so it gave once", net.sliceOf(0), 10);
        Check.due("and the other one never", net.sliceOf(8), 20);
        MeshBiller more = shared(400, 20);
        more.setRate(1, false, 101);
        more.join(4, 0, false);
        Check.due("one mill more: the other one gave too", more.sliceOf(8), 10);
        Check.due("one second", more.sliceOf(4), 1);
        Check.due("what is left over", more.free(0), 99);
    }

    /** Slices 3: when all have given what they can, and it pays none, what they gave stays free. */
    private static void termSlices3NoneIsLeftToGive() {
        MeshBiller net = shared(400, 20);
        net.setRate(1, false, 381);
        net.join(4, 0, false);
        Check.due("CUT", net.stateOf(2), MeshBiller.CUT);
        Check.due("one second each", net.sliceOf(0) + net.sliceOf(8), 2);
        Check.due("free", net.free(0), 380);
        MeshBiller just = shared(400, 20);
        just.setRate(1, false, 380);
        just.join(4, 0, false);
        Check.due("380 mills pay a second at the rate 380", just.sliceOf(4), 1);
        Check.due("free", just.free(0), 0);
    }

    /** Slices 3: "that one of these with the most money left": not that with the most seconds. */
    private static void termSlices3TheMostMoney() {
        MeshBiller net = Scenes.empty();
        net.top(0, 200 + 210);
        net.setRate(1, false, 21);
        net.begin(0, 9, true);
        Check.due("20 seconds at the rate 10", net.sliceOf(0), 20);
        Check.due("10 seconds at the rate 21", net.sliceOf(9), 10);
        net.join(8, 0, true);
        Check.due("210 mills are more than 200", net.sliceOf(9), 5);
        Check.due("the phone 0 keeps its own", net.sliceOf(0), 20);
        Check.due("105 mills pay 10 seconds", net.sliceOf(8), 10);
    }

    /** Slices 3: ".. of several that of the lowest phone", whichever leg is lower. */
    private static void termSlices3OfSeveralTheLowestPhone() {
        MeshBiller net = Scenes.empty();
        net.top(0, 400);
        net.begin(8, 0, true);
        net.move(4, 0);
        net.join(4, 0, false);
        Check.due("the phone 0, with the higher leg", net.sliceOf(0), 10);
        Check.due("the phone 8, with the lower leg", net.sliceOf(8), 20);
        MeshBiller other = Scenes.empty();
        other.top(0, 399);
        other.begin(8, 0, true);
        other.move(4, 0);
        other.join(4, 0, false);
        Check.due("19 seconds of the phone 0 are less", other.sliceOf(0), 19);
        Check.due("than 20 of the phone 8", other.sliceOf(8), 10);
    }

    /** Slices 3: "some other leg that the same wallet pays": of any call, hosted or not, but of no other wallet. */
    private static void termSlices3TheSameWallet() {
        MeshBiller net = Scenes.empty();
        net.top(0, 200);
        net.top(1, 1000);
        net.begin(0, 1, false);
        net.begin(5, 8, false);
        Check.due("a leg of another call gave", net.sliceOf(0), 10);
        Check.due("to this one", net.sliceOf(8), 10);
        Check.due("legs of another wallet keep theirs", net.sliceOf(1) + net.sliceOf(5), 40);
        MeshBiller other = Scenes.empty();
        other.top(1, 1000);
        other.top(0, 200);
        other.begin(1, 0, true);
        other.setWallet(8, 0);
        other.give(0, 2, 200);
        other.join(8, 0, false);
        Check.due("the phone has the wallet, another one pays: it keeps", other.sliceOf(0), 20);
        Check.due("so this one is CUT", other.stateOf(2), MeshBiller.CUT);
    }

    /** Slices 3: "has a slice from money with a rate above 0": not one for nothing, though it costs now. */
    private static void termSlices3ARateAbove0() {
        MeshBiller net = Scenes.empty();
        net.setRate(0, false, 0);
        net.begin(0, 8, true);
        net.setRate(0, false, 10);
        net.move(4, 0);
        net.join(4, 0, false);
        Check.due("CUT", net.stateOf(2), MeshBiller.CUT);
        Check.due("nobody gave", net.sliceOf(0) + net.sliceOf(8), 40);
        MeshBiller least = Scenes.empty();
        least.top(0, 20);
        least.setRate(0, false, 1);
        least.begin(0, 8, true);
        Check.due("at the rate 1 it gives", least.sliceOf(8), 10);
    }

    /** Slices 3: what is given back is worth the rate at which it was set aside. */
    private static void termSlices3AtTheRateOfThen() {
        MeshBiller net = Scenes.empty();
        net.top(0, 200);
        net.top(1, 1000);
        net.begin(0, 1, false);
        net.setRate(0, false, 50);
        net.join(8, 0, false);
        Check.due("10 seconds at the rate 10", net.sliceOf(0), 10);
        Check.due("pay 2 at the rate 50", net.sliceOf(8), 2);
        Check.due("none is left over", net.free(0), 0);
    }

    /** Slices 3: "has a slice from money": a bundle's slice does not give. */
    private static void termSlices3NotFromABundle() {
        MeshBiller net = Scenes.empty();
        net.top(1, 1000);
        net.buy(0, 1, 20, 1, 0, 0);
        net.begin(0, 1, false);
        Check.due("the phone 8", net.join(8, 0, false), 2);
        Check.due("is CUT", net.stateOf(2), MeshBiller.CUT);
        Check.due("the bundle's slice stays", net.sliceOf(0), 20);
    }

    /** Slices 3: "then as in 2": no more than the length, the money, and the cap let. */
    private static void termSlices3ThenAsIn2() {
        MeshBiller net = Scenes.empty();
        net.top(0, 40);
        net.top(1, 1000);
        net.setSlice(4);
        net.begin(0, 1, false);
        net.setRate(0, false, 1);
        net.setSlice(19);
        net.join(8, 0, false);
        Check.due("the length", net.sliceOf(8), 19);
        Check.due("of 20 mills", net.free(0), 1);
        MeshBiller cap = Scenes.empty();
        cap.top(0, 200);
        cap.top(1, 1000);
        cap.setCap(8, 39);
        cap.begin(0, 1, false);
        cap.join(8, 0, false);
        Check.due("the cap", cap.sliceOf(8), 3);
        Check.due("of 100 mills", cap.free(0), 70);
    }

    /** Slices 4: "If it gets no second by this, it is CUT": without a bundle, without money. */
    private static void termSlices4IsCut() {
        MeshBiller net = begun(Scenes.withMoney(200));
        Check.due("20 seconds", net.pass(20), 0);
        Check.due("it goes on with an empty slice", net.stateOf(0), MeshBiller.GOES_ON);
        Check.due("then none", net.pass(1), 1);
        Check.due("CUT", net.stateOf(0), MeshBiller.CUT);
        Check.due("no second more was rated", net.seconds(0), 20);
        Check.due("all was charged", net.spent(0), 200);
        MeshBiller topped = begun(Scenes.withMoney(200));
        topped.pass(20);
        topped.top(0, 10);
        Check.due("with money in time it goes on", topped.pass(1), 0);
        Check.due("a second", topped.seconds(0), 21);
        Check.due("and no more", topped.pass(1), 1);
    }

    /** Caps: "its legs may cost no more money in a day": just as much. */
    private static void termCapsNoMoreInADay() {
        for (int cap = 249; cap <= 251; cap++) {
            MeshBiller net = Scenes.withMoney(1000);
            net.setCap(0, cap);
            begun(net);
            int seconds = cap / 10;
            Check.due("as many seconds", net.pass(seconds), 0);
            Check.due("and no more", net.pass(1), 1);
            Check.due("charged", net.charged(0), 10 * seconds);
        }
    }

    /** Caps: "its legs", all of a day; the next day begins with the second 2400. */
    private static void termCapsOfADay() {
        MeshBiller net = Scenes.at(2390);
        net.setCap(0, 100);
        net.begin(0, 1, false);
        Check.due("the last 10 seconds of a day", net.sliceOf(0), 10);
        net.pass(9);
        net.leave(0);
        net.begin(0, 1, false);
        Check.due("one second more on this day", net.sliceOf(0), 1);
        net.pass(1);
        Check.due("now", net.now(), 2400);
        Check.due("no slice yet", net.sliceOf(0), 0);
        net.pass(1);
        Check.due("the whole cap again", net.sliceOf(0), 9);
        net.pass(9);
        Check.due("then no more", net.pass(1), 1);
    }

    /** Caps: what was set aside on one day and is used on the next counts to the next. */
    private static void termCapsASliceOfTwoDays() {
        MeshBiller net = Scenes.at(2398);
        net.setCap(0, 200);
        net.begin(0, 1, false);
        Check.due("two seconds on the first day, 18 on the next", net.pass(20), 0);
        net.pass(1);
        Check.due("two more, of which one is used", net.sliceOf(0), 1);
        net.pass(1);
        Check.due("then no more", net.pass(1), 1);
        Check.due("charged", net.charged(0), 220);
    }

    /** Caps: a day in which nothing was charged between others. */
    private static void termCapsDaysLater() {
        MeshBiller net = Scenes.withMoney(1000);
        net.setCap(0, 50);
        begun(net);
        Check.due("the first day", net.pass(6), 1);
        Check.passLong(net, 4800);
        begun(net);
        Check.due("the third day", net.sliceOf(0), 5);
        Check.due("again", net.pass(6), 1);
    }

    /** Caps: "whoever pays": the host's wallet, and its own. */
    private static void termCapsWhoeverPays() {
        MeshBiller net = Scenes.rich();
        net.setCap(8, 100);
        net.begin(1, 8, true);
        net.pass(4);
        net.leave(8);
        Check.due("4 seconds, paid by the host", net.charged(1), 40);
        net.setWallet(8, 3);
        net.begin(8, 1, false);
        Check.due("6 are left, paid by its own wallet", net.sliceOf(8), 6);
    }

    /** Caps: of the phone whose leg it is, not of the one that pays, and not of others that the wallet pays. */
    private static void termCapsOfThePhoneAlone() {
        MeshBiller net = Scenes.rich();
        net.setCap(0, 30);
        net.begin(0, 8, true);
        Check.due("the phone 0", net.sliceOf(0), 3);
        Check.due("the phone 8, of the same wallet", net.sliceOf(8), 20);
    }

    /** Caps: "no more money": what bundles cover is none, and what is for nothing neither. */
    private static void termCapsMoneyAlone() {
        MeshBiller net = withBundle(1, 30);
        net.setCap(0, 20);
        begun(net);
        Check.due("30 seconds are covered", net.pass(30), 0);
        net.setRate(0, false, 0);
        Check.due("30 more are for nothing", net.pass(30), 0);
        net.setRate(0, false, 10);
        Check.due("2 seconds under the cap", net.pass(2), 0);
        Check.due("and no more", net.pass(1), 1);
    }

    /** Caps: lowered below what the day has cost, a slice that is there stays, and no other one is got. */
    private static void termCapsLowered() {
        MeshBiller net = begun(Scenes.withMoney(1000));
        net.pass(5);
        net.setCap(0, 0);
        Check.due("the slice stays", net.pass(15), 0);
        Check.due("no other one", net.pass(1), 1);
        net.setCap(0, 209);
        begun(net);
        Check.due("9 mills are too few", net.stateOf(2), MeshBiller.CUT);
        net.setCap(0, 210);
        begun(net);
        Check.due("raised by what a second costs", net.sliceOf(0), 1);
        net.setCap(0, MeshBiller.NONE);
        net.pass(2);
        Check.due("none any more", net.sliceOf(0), 19);
    }

    /** "The order of use ..: by rising ranks", before when they are over, before numbers. */
    private static void termOrderByRanks() {
        MeshBiller net = Scenes.withMoney(0);
        net.buy(0, 1, 11, 1, 9, 0);
        net.buy(0, 1, 12, 2, 8, 0);
        net.buy(0, 1, 13, 3, 0, 0);
        net.buy(0, 1, 14, 4, 1, 0);
        net.setSlice(100);
        usedInOrder(net, 13, 14, 12, 11);
    }

    /** ".. of the same rank by when they are over, the earlier one first", before numbers. */
    private static void termOrderByWhenTheyAreOver() {
        MeshBiller net = Scenes.withMoney(0);
        net.buy(0, 1, 11, 3, 4, 0);
        net.buy(0, 1, 12, 30, 4, 0);
        net.buy(0, 1, 13, 1, 4, 0);
        net.buy(0, 1, 14, 2, 4, 0);
        net.setSlice(100);
        usedInOrder(net, 13, 14, 11, 12);
    }

    /** ".. when they are over" is a day, not a number of days: of other days, but over at once, numbers count. */
    private static void termOrderByTheDayNotByDays() {
        MeshBiller net = Scenes.withMoney(0);
        net.buy(0, 1, 11, 3, 4, 0);
        net.buy(0, 1, 12, 2, 4, 0);
        Check.passLong(net, 2399);
        net.buy(0, 1, 13, 1, 4, 0);
        net.buy(0, 1, 14, 2, 4, 0);
        net.setSlice(100);
        net.pass(1);
        net.buy(0, 1, 15, 1, 4, 0);
        usedInOrder(net, 12, 14, 15, 11);
        Check.due("one is over", net.left(2), 0);
    }

    /** ".. then by rising numbers". */
    private static void termOrderByNumbers() {
        MeshBiller net = Scenes.withMoney(0);
        for (int seconds = 11; seconds <= 16; seconds++) {
            net.buy(seconds % 2, 1, seconds, 2, 5, 0);
        }
        net.setSlice(100);
        usedInOrder(net, 12, 14, 16);
    }

    private static void usedInOrder(MeshBiller net, int... slices) {
        net.begin(0, 9, false);
        int used = 0;
        for (int seconds : slices) {
            Check.due("the slice", net.sliceOf(0) + used, seconds);
            net.pass(net.sliceOf(0) + 1);
            used = 1;
        }
        Check.due("then none is left", net.stateOf(0), MeshBiller.CUT);
    }

    /** "What is given back to a bundle that is over is lost": not in its last second. */
    private static void termOrderGivenBackIsLost() {
        for (int second = 2399; second <= 2400; second++) {
            MeshBiller net = Scenes.at(2390);
            net.buy(0, 1, 50, 1, 0, 0);
            net.begin(0, 9, false);
            net.pass(second - 2390);
            net.leave(0);
            Check.due("in the second " + second, net.left(0), second == 2399 ? 41 : 0);
            Check.due("no money comes of it", net.free(0), Scenes.MONEY);
        }
    }

    /** A second, 1: "the rate of now is another one than that at which it was set aside": one more, one less, 0. */
    private static void termSecond1AnotherRate() {
        for (int rate : new int[] {9, 11, 0, 1000}) {
            MeshBiller net = begun(Scenes.withMoney(2000));
            net.pass(1);
            net.setRate(0, false, rate);
            Check.due("aside until the second is lived", net.aside(0), 190);
            net.pass(1);
            int slice = rate == 1000 ? 1 : 20;
            Check.due("a new slice", net.sliceOf(0), slice - 1);
            Check.due("charged", net.charged(0), 10 + rate);
            Check.due("all else is free", net.free(0), 1990 - slice * rate);
        }
        MeshBiller same = begun(Scenes.withMoney(2000));
        same.pass(1);
        same.setRate(0, false, 10);
        same.pass(1);
        Check.due("the same rate: the slice goes on", same.sliceOf(0), 18);
        same.top(1, 1000);
        same.setRate(1, false, 10);
        same.move(0, 1);
        same.pass(1);
        Check.due("the same rate of another zone: it goes on", same.sliceOf(0), 17);
    }

    /** A second, 1: a slice for nothing goes back for nothing. */
    private static void termSecond1FromTheRate0() {
        MeshBiller net = Scenes.withMoney(15);
        net.setRate(0, false, 0);
        begun(net);
        net.pass(1);
        net.setRate(0, false, 10);
        net.pass(1);
        Check.due("one second is paid", net.charged(0), 10);
        Check.due("the slice was of one", net.sliceOf(0), 0);
        Check.due("nothing came back", net.free(0), 5);
    }

    /** A second, 1: a slice that goes back by a new rate can pay the next one; if it can't, the leg is CUT. */
    private static void termSecond1WhatGoesBackPays() {
        MeshBiller net = begun(Scenes.withMoney(200));
        net.setRate(0, false, 200);
        Check.due("it pays one second at the rate 200", net.pass(1), 0);
        Check.due("charged", net.charged(0), 200);
        MeshBiller dear = begun(Scenes.withMoney(200));
        dear.setRate(0, false, 201);
        Check.due("none at the rate 201", dear.pass(1), 1);
        Check.due("it went back", dear.free(0), 200);
    }

    /** A second, 1: at the hours 8 and 20 the rate is another one, in the first second of each. */
    private static void termSecond1AnotherHour() {
        MeshBiller net = Scenes.at(795);
        net.begin(0, 1, false);
        net.pass(5);
        Check.due("ahead of the hour 8", net.sliceOf(0), 15);
        net.pass(1);
        Check.due("in it", net.sliceOf(0), 19);
        MeshBiller night = Scenes.at(1995);
        night.begin(0, 1, false);
        night.pass(5);
        Check.due("up to the last second of the hour 19", night.aside(0), 15 * 20);
        night.pass(1);
        Check.due("the first one of the hour 20", night.aside(0), 19 * 10);
        Check.due("charged", night.charged(0), 5 * 20 + 10);
        MeshBiller same = Scenes.at(795);
        same.setRate(0, true, 10);
        same.begin(0, 1, false);
        same.pass(6);
        Check.due("the same rate in both: the slice goes on", same.sliceOf(0), 14);
    }

    /** A second, 1: "or it is from a bundle that is over": in the first second of the day, not the last. */
    private static void termSecond1ABundleThatIsOver() {
        MeshBiller net = Scenes.at(2398);
        net.buy(0, 1, 50, 1, 0, 0);
        net.begin(0, 9, false);
        net.pass(2);
        Check.due("two seconds are covered", net.covered(0), 20);
        Check.due("the slice is still there", net.sliceOf(0), 18);
        Check.due("the bundle is over", net.left(0), 0);
        net.pass(1);
        Check.due("no third one", net.covered(0), 20);
        Check.due("money instead", net.charged(0), 10);
        Check.due("a new slice", net.sliceOf(0), 19);
    }

    /** A second, 1: "or does not cover the zone of now". */
    private static void termSecond1ABundleOfOtherZones() {
        MeshBiller net = withBundle(3, 50);
        begun(net);
        net.move(0, 1);
        net.pass(1);
        Check.due("it covers the zone 1 too: the slice goes on", net.sliceOf(0), 19);
        net.move(0, 2);
        Check.due("until the second is lived", net.left(0), 30);
        net.pass(1);
        Check.due("it does not cover the zone 2", net.left(0), 49);
        Check.due("money instead", net.charged(0), 30);
        net.move(0, 1);
        net.move(0, 2);
        net.pass(1);
        Check.due("to and fro in a second: the slice goes on", net.sliceOf(0), 18);
    }

    /** A second, 1: a bundle's slice goes on at any rate, and though another bundle comes first now. */
    private static void termSecond1ABundleAtAnyRate() {
        MeshBiller net = Scenes.withMoney(1000);
        net.buy(0, 1, 50, 2, 5, 0);
        begun(net);
        net.setRate(0, false, 1000);
        net.buy(0, 1, 50, 1, 0, 0);
        net.pass(1);
        Check.due("it goes on", net.sliceOf(0), 19);
        Check.due("at the rate of now", net.covered(0), 1000);
        Check.due("the other bundle is as it was", net.left(1), 50);
        net.pass(20);
        Check.due("the next slice is of the other one", net.left(1), 30);
    }

    /** "leg by leg, by rising numbers of phones", not of legs: the lower phone gets what pays one second. */
    private static void termSecondByNumbersOfPhones() {
        MeshBiller net = Scenes.empty();
        net.top(0, 20);
        net.setSlice(1);
        net.begin(8, 0, true);
        net.pass(1);
        Check.due("a second each", net.charged(0) + net.charged(1), 20);
        net.top(0, 10);
        Check.due("one is CUT", net.pass(1), 1);
        Check.due("the phone 8, with the lower leg", net.stateOf(0), MeshBiller.CUT);
        Check.due("the phone 0 had its turn", net.seconds(1), 2);
    }

    /** A second, 2: a leg that gets a slice can take from one whose turn comes, or has been. */
    private static void termSecond2TakesFromOthers() {
        MeshBiller later = sharedBy(1, 20);
        later.pass(2);
        Check.due("the phone 0 took 9 of 19, and used one", later.sliceOf(0), 8);
        Check.due("then the phone 8 used one of its 10", later.sliceOf(8), 9);
        MeshBiller earlier = sharedBy(20, 1);
        earlier.pass(2);
        Check.due("the phone 0 used two, and gave 9 of 18", earlier.sliceOf(0), 9);
        Check.due("the phone 8 got them, and used one", earlier.sliceOf(8), 8);
        MeshBiller none = shared(60, 2);
        none.pass(2);
        Check.due("20 mills are free", none.free(0), 20);
        Check.due("the phone 0 took both seconds, and used one: it has too few", none.pass(1), 1);
        Check.due("the phone 8 is CUT", none.stateOf(1), MeshBiller.CUT);
    }

    /** A second, 3: "the rate of now is charged, if the slice is from money, or else covered". */
    private static void termSecond3ChargedOrCovered() {
        MeshBiller net = withBundle(1, 3);
        begun(net);
        net.pass(3);
        Check.due("covered", net.covered(0), 30);
        Check.due("not charged", net.charged(0), 0);
        net.pass(4);
        Check.due("charged", net.charged(0), 40);
        Check.due("no more covered", net.covered(0), 30);
        Check.due("rated", net.seconds(0), 7);
    }

    /** "A leg that ENDS .. is rated in this second only if it was its turn already": before, and behind. */
    private static void termSecondEndsAtOnce() {
        for (int cut = 0; cut <= 8; cut += 8) {
            MeshBiller net = Scenes.rich();
            net.setCap(cut, 50);
            net.begin(0, 8, false);
            Check.due("one is CUT in the sixth second", net.pass(6), 1);
            int other = cut == 0 ? 1 : 0;
            Check.due("the other one ENDS", net.stateOf(other), MeshBiller.ENDED);
            Check.due("its turn", net.seconds(other), cut == 0 ? 5 : 6);
            Check.due("the CUT one", net.seconds(1 - other), 5);
            Check.due("its money is free", net.free(0), Scenes.MONEY - (cut == 0 ? 100 : 110));
        }
    }

    /** ".. as it is the only one that is left": of four, three are CUT in one second. */
    private static void termSecondOfFour() {
        MeshBiller net = Scenes.inFullCall();
        net.setCap(0, 0);
        net.setCap(1, 0);
        net.setCap(3, 0);
        Check.due("three", net.pass(21), 3);
        Check.due("the phone 2 was rated ahead of the last one", net.seconds(2), 21);
        Check.due("and ENDS", net.stateOf(2), MeshBiller.ENDED);
        MeshBiller last = Scenes.inFullCall();
        last.setCap(0, 0);
        last.setCap(1, 0);
        last.setCap(2, 0);
        Check.due("three", last.pass(21), 3);
        Check.due("the phone 3 was not", last.seconds(3), 20);
        MeshBiller all = Scenes.inFullCall();
        for (int phone = 0; phone < 4; phone++) {
            all.setCap(phone, 0);
        }
        Check.due("the last one of four ENDS, it is not CUT", all.pass(500), 3);
        Check.due("its state", all.stateOf(3), MeshBiller.ENDED);
    }

    /** "Nobody is charged beyond a wallet": to the last mill, with all that slices do. */
    private static void termNobodyIsChargedBeyondAWallet() {
        MeshBiller net = Scenes.empty();
        net.top(0, 1234);
        net.setSlice(7);
        net.setWallet(2, 0);
        net.begin(0, 4, true);
        net.join(8, 0, true);
        net.join(2, 0, false);
        for (int second = 0; second < 60; second++) {
            net.setRate(second % 3, false, 1 + second * 7 % 40);
            net.pass(1);
            Check.due("free, aside and spent", net.free(0) + net.aside(0) + net.spent(0), 1234);
            Check.holds("none is below 0", net.free(0) >= 0 && net.aside(0) >= 0);
        }
        Check.due("the call is over", net.parties(0), 0);
        Check.due("spent by its legs", net.charged(0) + net.charged(1) + net.charged(2) + net.charged(3), net.spent(0));
    }
}
