/** Promises 8 to 14, at their edges: one test for each sentence that names one, which is told ahead of it. */
public final class EdgesOfWalletsTest {
    public static void main(String[] args) {
        Check.runTests(EdgesOfWalletsTest.class);
    }

    /** Promise 8, "wallet: 0 to 3", "Throws IndexOutOfBoundsException if there is no such wallet". */
    private static void promise8Wallet() {
        Check.range("the wallet", Scenes::inCall, Check.INDEX, 0, 3, (x, v) -> x.top(v, 5));
    }

    /** Promise 8, "amount: 1 to 1000000", "Throws IllegalArgumentException if amount is out of range". */
    private static void promise8Amount() {
        Check.range("the amount", Scenes::inCall, Check.ARGUMENT, 1, 1000000, (x, v) -> x.top(2, v));
        Check.due("the least", Scenes.empty().top(3, 1), 1);
        Check.due("the most", Scenes.empty().top(0, 1000000), 1000000);
    }

    /** Promise 8: which one is thrown first. */
    private static void promise8FirstOfSeveral() {
        Check.refuses("wallet, amount", Check.INDEX, Scenes::inCall, x -> x.top(4, 0));
        Check.refuses("wallet, amount", Check.INDEX, Scenes::inCall, x -> x.top(-1, 1000001));
    }

    /** Promise 8, as often as an object can be called: no wallet is ever full. */
    private static void promise8TheMost512Times() {
        MeshBiller net = Scenes.empty();
        for (int i = 1; i < 511; i++) {
            net.top(1, 1000000);
        }
        Check.due("511 times", net.top(1, 1000000), 511000000);
        Check.due("free", net.free(1), 511000000);
    }

    /** Promise 9, "wallet: 0 to 3", "Throws IndexOutOfBoundsException if there is no such wallet, of either". */
    private static void promise9Wallet() {
        Check.range("the first one", Scenes::inCall, Check.INDEX, 0, 3, (x, v) -> x.give(v, v == 3 ? 2 : 3, 5));
    }

    /** Promise 9, "other: 0 to 3", "Throws IndexOutOfBoundsException if there is no such wallet, of either". */
    private static void promise9Other() {
        Check.range("the other one", Scenes::inCall, Check.INDEX, 0, 3, (x, v) -> x.give(v == 3 ? 2 : 3, v, 5));
    }

    /** Promise 9, "amount: 1 to 1000000", "Throws IllegalArgumentException if .. amount is out of range". */
    private static void promise9Amount() {
        Check.range("the amount", Scenes::rich, Check.ARGUMENT, 1, 1000000, (x, v) -> x.give(2, 3, v));
    }

    /** Promise 9, "Throws IllegalArgumentException if both are the same". */
    private static void promise9BothAreTheSame() {
        for (int wallet = 0; wallet < 4; wallet++) {
            int w = wallet;
            Check.refuses("the same", Check.ARGUMENT, Scenes::rich, x -> x.give(w, w, 1));
        }
    }

    /** Promise 9, "Moves free money to another wallet": the least, and all that there is. */
    private static void promise9Moves() {
        MeshBiller net = Scenes.rich();
        Check.due("the least", net.give(3, 0, 1), 999999);
        Check.due("the other one", net.free(0), 1000001);
        Check.due("the most", net.give(0, 1, 1000000), 1);
        Check.due("the other one", net.free(1), 2000000);
        Check.due("the last mill", net.give(0, 2, 1), 0);
        Check.due("the other one", net.free(2), 1000001);
    }

    /** Promise 9, "Throws IllegalStateException if the first one has less free money": one mill less, or none. */
    private static void promise9LessFreeMoney() {
        Check.due("all that it has", Scenes.withMoney(7).give(0, 1, 7), 0);
        Check.due("all but one", Scenes.withMoney(7).give(0, 1, 6), 1);
        Check.refuses("one more", Check.STATE, () -> Scenes.withMoney(7), x -> x.give(0, 1, 8));
        Check.refuses("none", Check.STATE, Scenes::empty, x -> x.give(0, 1, 1));
        Check.refuses("what the other one has is not asked", Check.STATE, () -> Scenes.withMoney(7),
            x -> x.give(1, 0, 1));
        Check.due("what is not set aside", Scenes.inCall().give(0, 1, Scenes.MONEY - 200), 0);
        Check.refuses("what is set aside", Check.STATE, Scenes::inCall, x -> x.give(0, 1, Scenes.MONEY - 199));
    }

    /** Promise 9: which one is thrown first. */
    private static void promise9FirstOfSeveral() {
        Check.refuses("both are the same, and none", Check.INDEX, Scenes::empty, x -> x.give(4, 4, 1));
        Check.refuses("other, amount", Check.INDEX, Scenes::empty, x -> x.give(0, -1, 0));
        Check.refuses("wallet, money", Check.INDEX, Scenes::empty, x -> x.give(4, 0, 1));
        Check.refuses("the same, money", Check.ARGUMENT, Scenes::empty, x -> x.give(0, 0, 1));
        Check.refuses("amount, money", Check.ARGUMENT, Scenes::empty, x -> x.give(0, 1, 1000001));
        Check.refuses("all of them", Check.INDEX, Scenes::empty, x -> x.give(-1, -1, 1000001));
    }

    /** Promise 10, "wallet: 0 to 3", "Throws IndexOutOfBoundsException if there is no such wallet". */
    private static void promise10Wallet() {
        Check.range("the wallet", Scenes::inCall, Check.INDEX, 0, 3, (x, v) -> x.buy(v, 1, 1, 1, 0, 0));
    }

    /** Promise 10, "the zones that it covers, as a set, 1 to 7". */
    private static void promise10Zones() {
        Check.range("zones", Scenes::inCall, Check.ARGUMENT, 1, 7, (x, v) -> x.buy(0, v, 1, 1, 0, 0));
    }

    /** Promise 10, "the bit z for the zone z": each set with each zone. */
    private static void promise10TheBitOfAZone() {
        for (int zones = 1; zones <= 7; zones++) {
            for (int phone = 0; phone < 3; phone++) {
                MeshBiller net = Scenes.rich();
                net.buy(phone, zones, 50, 1, 0, 0);
                net.begin(phone, 3, false);
                boolean isCovered = (zones / (phone == 0 ? 1 : 2 * phone)) % 2 == 1;
                Check.due("the zones " + zones + ", the zone " + phone, net.left(0), isCovered ? 30 : 50);
            }
        }
    }

    /** Promise 10, "seconds: 1 to 5000". */
    private static void promise10Seconds() {
        Check.range("seconds", Scenes::inCall, Check.ARGUMENT, 1, 5000, (x, v) -> x.buy(0, 1, v, 1, 0, 0));
        MeshBiller net = Scenes.rich();
        net.buy(0, 1, 1, 1, 0, 0);
        net.buy(0, 1, 5000, 1, 0, 0);
        Check.due("the least", net.left(0), 1);
        Check.due("the most", net.left(1), 5000);
        net.begin(0, 1, false);
        Check.due("a slice of the least", net.sliceOf(0), 1);
        net.pass(2);
        Check.due("then one of the most", net.sliceOf(0), 19);
        Check.due("what that has left", net.left(1), 4980);
    }

    /** Promise 10, "days: 1 to 30". */
    private static void promise10Days() {
        Check.range("days", Scenes::inCall, Check.ARGUMENT, 1, 30, (x, v) -> x.buy(0, 1, 1, v, 0, 0));
    }

    /** Promise 10, "it is over when as many days have begun behind this one": 1, 2, and more than there are. */
    private static void promise10IsOver() {
        for (int days = 1; days <= 2; days++) {
            MeshBiller net = Scenes.at(2399);
            net.buy(0, 1, 9, days, 0, 0);
            Check.passLong(net, 2400 * (days - 1));
            Check.due("the last second of it", net.left(0), 9);
            net.pass(1);
            Check.due("over", net.left(0), 0);
        }
        MeshBiller fresh = Scenes.at(2400);
        fresh.buy(0, 1, 9, 1, 0, 0);
        Check.passLong(fresh, 2399);
        Check.due("bought in the first second of a day: the last one of it", fresh.left(0), 9);
        fresh.pass(1);
        Check.due("the next day", fresh.left(0), 0);
        MeshBiller longest = Scenes.empty();
        longest.buy(0, 1, 9, 30, 0, 0);
        Check.passLong(longest, 50000);
        Check.due("30 days are more than there are", longest.left(0), 9);
        MeshBiller twenty = Scenes.empty();
        twenty.buy(0, 1, 9, 20, 0, 0);
        Check.passLong(twenty, 47999);
        Check.due("20 days: the last second", twenty.left(0), 9);
        twenty.pass(1);
        Check.due("over", twenty.left(0), 0);
    }

    /** Promise 10, "rank: 0 to 9". */
    private static void promise10Rank() {
        Check.range("the rank", Scenes::inCall, Check.ARGUMENT, 0, 9, (x, v) -> x.buy(0, 1, 1, 1, v, 0));
        MeshBiller net = Scenes.rich();
        net.buy(0, 1, 9, 1, 9, 0);
        net.buy(0, 1, 9, 30, 0, 0);
        net.begin(0, 1, false);
        Check.due("the most is used last", net.left(0), 9);
        Check.due("the least is used first", net.left(1), 0);
    }

    /** Promise 10, "price: 0 to 1000000". */
    private static void promise10Price() {
        Check.range("the price", Scenes::rich, Check.ARGUMENT, 0, 1000000, (x, v) -> x.buy(0, 1, 1, 1, 0, v));
        MeshBiller net = Scenes.rich();
        net.buy(0, 1, 1, 1, 0, 0);
        Check.due("the least", net.free(0), 1000000);
        net.buy(0, 1, 1, 1, 0, 1000000);
        Check.due("the most", net.free(0), 0);
        Check.due("nothing is charged", net.spent(0), 0);
    }

    /** Promise 10, "Throws IllegalStateException if the wallet has less free money": one mill less, or none. */
    private static void promise10LessFreeMoney() {
        Check.due("all that it has", Scenes.withMoney(7).buy(0, 1, 1, 1, 0, 7), 0);
        Check.refuses("one more", Check.STATE, () -> Scenes.withMoney(7), x -> x.buy(0, 1, 1, 1, 0, 8));
        Check.refuses("none", Check.STATE, () -> Scenes.withMoney(7), x -> x.buy(1, 1, 1, 1, 0, 1));
        Check.due("what is not set aside", Scenes.inCall().buy(0, 1, 1, 1, 0, Scenes.MONEY - 200), 0);
        Check.refuses("what is set aside", Check.STATE, Scenes::inCall, x -> x.buy(0, 1, 1, 1, 0, Scenes.MONEY - 199));
    }

    /** Promise 10, "Throws IllegalStateException if .. there were 40", whoever bought them, over or not. */
    private static void promise10ThereWere40() {
        Check.due("the bundle 40", Scenes.withBundles(39).buy(0, 1, 1, 1, 0, 0), 39);
        for (int wallet = 0; wallet < 4; wallet++) {
            int w = wallet;
            Check.refuses("the bundle 41", Check.STATE, () -> Scenes.withBundles(40), x -> x.buy(w, 1, 1, 1, 0, 0));
        }
        MeshBiller net = Scenes.withBundles(40);
        Check.passLong(net, 2400);
        Check.due("when all are over", Check.thrownBy(net, x -> x.buy(0, 1, 1, 1, 0, 0)), "IllegalStateException");
    }

    /** Promise 10, "Returns its number, from 0, among the bundles of all wallets". */
    private static void promise10Number() {
        MeshBiller net = Scenes.rich();
        for (int i = 0; i < 40; i++) {
            Check.due("the number", net.buy((i * 3) % 4, 1 + i % 7, 1 + i, 1 + i % 30, 9 - i % 10, i), i);
        }
        for (int i = 0; i < 40; i++) {
            Check.due("left of it", net.left(i), 1 + i);
        }
    }

    /** Promise 10: which one is thrown first. */
    private static void promise10FirstOfSeveral() {
        Check.refuses("wallet, zones", Check.INDEX, Scenes::rich, x -> x.buy(4, 0, 1, 1, 0, 0));
        Check.refuses("wallet, all others", Check.INDEX, Scenes::rich, x -> x.buy(-1, 8, 0, 31, 10, -1));
        Check.refuses("wallet, 40", Check.INDEX, () -> Scenes.withBundles(40), x -> x.buy(4, 1, 1, 1, 0, 0));
        Check.refuses("zones, money", Check.ARGUMENT, Scenes::empty, x -> x.buy(0, 0, 1, 1, 0, 1));
        Check.refuses("seconds, money", Check.ARGUMENT, Scenes::empty, x -> x.buy(0, 1, 5001, 1, 0, 1));
        Check.refuses("days, money", Check.ARGUMENT, Scenes::empty, x -> x.buy(0, 1, 1, 31, 0, 1));
        Check.refuses("rank, money", Check.ARGUMENT, Scenes::empty, x -> x.buy(0, 1, 1, 1, 10, 1));
        Check.refuses("price, money", Check.ARGUMENT, Scenes::empty, x -> x.buy(0, 1, 1, 1, 0, 1000001));
        Check.refuses("seconds, 40", Check.ARGUMENT, () -> Scenes.withBundles(40), x -> x.buy(0, 1, 0, 1, 0, 0));
        Check.refuses("price, 40", Check.ARGUMENT, () -> Scenes.withBundles(40), x -> x.buy(0, 1, 1, 1, 0, -1));
        Check.refuses("money and 40", Check.STATE, EdgesOfWalletsTest::poorWith40, x -> x.buy(0, 1, 1, 1, 0, 1));
    }

    private static MeshBiller poorWith40() {
        MeshBiller net = Scenes.withBundles(40);
        net.give(0, 1, Scenes.MONEY);
        return net;
    }

    /** Promise 11, "wallet: 0 to 3", "Throws IndexOutOfBoundsException if there is no such wallet". */
    private static void promise11Wallet() {
        Check.range("the wallet", Scenes::inCall, Check.INDEX, 0, 3, (x, v) -> x.free(v));
    }

    /** Promise 11, "the free money": none at first, and none when all is set aside. */
    private static void promise11NoFreeMoney() {
        Check.due("at first", Scenes.empty().free(3), 0);
        MeshBiller net = Scenes.withMoney(200);
        net.begin(0, 9, false);
        Check.due("all is set aside", net.free(0), 0);
        net.pass(20);
        Check.due("all was used", net.free(0), 0);
        net.pass(1);
        Check.due("CUT, and none is left", net.free(0), 0);
    }

    /** Promise 12, "wallet: 0 to 3", "Throws IndexOutOfBoundsException if there is no such wallet". */
    private static void promise12Wallet() {
        Check.range("the wallet", Scenes::inCall, Check.INDEX, 0, 3, (x, v) -> x.aside(v));
    }

    /** Promise 12, "set aside in slices, and was not used": all of it, the last second, and none. */
    private static void promise12WasNotUsed() {
        MeshBiller net = Scenes.inCall();
        Check.due("a whole slice", net.aside(0), 200);
        net.pass(19);
        Check.due("the last second", net.aside(0), 10);
        net.pass(1);
        Check.due("an empty slice", net.aside(0), 0);
        net.pass(1);
        Check.due("the next one", net.aside(0), 190);
        net.leave(0);
        Check.due("over", net.aside(0), 0);
    }

    /** Promise 12, "the money of a wallet": slices of bundles, and those at the rate 0, hold none. */
    private static void promise12SlicesWithoutMoney() {
        MeshBiller net = Scenes.rich();
        net.buy(0, 1, 100, 1, 0, 0);
        net.setRate(1, false, 0);
        net.begin(0, 1, false);
        Check.due("a bundle's slice", net.aside(0), 0);
        Check.due("one for nothing", net.aside(1), 0);
        Check.due("both have seconds", net.sliceOf(0) + net.sliceOf(1), 40);
        net.setRate(0, false, 1000);
        net.setRate(1, false, 1000);
        Check.due("what is set aside is as it was: a bundle's slice", net.aside(0), 0);
        Check.due("one for nothing", net.aside(1), 0);
    }

    /** Promise 12, at the most that slices of one wallet can hold: ten of 100 seconds at the rate 1000. */
    private static void promise12TheMost() {
        MeshBiller net = Scenes.empty();
        net.top(0, 1000000);
        net.setSlice(100);
        net.setRate(0, false, 1000);
        net.setChannels(0, 10, 0);
        for (int phone = 0; phone < 10; phone++) {
            net.move(phone, 0);
            net.setWallet(phone, 0);
        }
        for (int phone = 0; phone < 10; phone += 2) {
            net.begin(phone, phone + 1, false);
        }
        Check.due("all is aside", net.aside(0), 1000000);
        Check.due("none is free", net.free(0), 0);
        net.pass(100);
        Check.due("all is spent", net.spent(0), 1000000);
        Check.due("none is aside", net.aside(0), 0);
        Check.due("each one is CUT, but the last one of each call", net.pass(1), 5);
    }

    /** Promise 13, "wallet: 0 to 3", "Throws IndexOutOfBoundsException if there is no such wallet". */
    private static void promise13Wallet() {
        Check.range("the wallet", Scenes::inCall, Check.INDEX, 0, 3, (x, v) -> x.spent(v));
    }

    /** Promise 13, "what was charged to a wallet so far": not what is only set aside, given or covered. */
    private static void promise13SoFar() {
        MeshBiller net = Scenes.inCall();
        Check.due("set aside", net.spent(0), 0);
        net.pass(1);
        Check.due("a second", net.spent(0), 10);
        net.give(0, 1, 500);
        net.buy(0, 1, 100, 1, 0, 500);
        Check.due("a gift, a bundle", net.spent(0), 10);
        net.pass(20);
        Check.due("19 seconds of the slice, and one covered", net.spent(0), 200);
        net.leave(0);
        net.pass(1);
        Check.due("none behind the end", net.spent(0), 200);
    }

    /** Promise 14, "bundle: a bundle", "Throws IndexOutOfBoundsException if there was no such bundle". */
    private static void promise14Bundle() {
        Check.range("of one", () -> Scenes.withBundles(1), Check.INDEX, 0, 0, (x, v) -> x.left(v));
        Check.range("of 40", () -> Scenes.withBundles(40), Check.INDEX, 0, 39, (x, v) -> x.left(v));
        Check.refuses("of none", Check.INDEX, Scenes::rich, x -> x.left(0));
    }

    /** Promise 14, "how many seconds a bundle has left that are not set aside": all, one, none. */
    private static void promise14NotSetAside() {
        MeshBiller net = Scenes.rich();
        net.buy(0, 1, 21, 1, 0, 0);
        Check.due("all", net.left(0), 21);
        net.begin(0, 9, false);
        Check.due("one", net.left(0), 1);
        net.pass(21);
        Check.due("none: the last one is used", net.left(0), 0);
        Check.due("covered", net.covered(0), 210);
        net.leave(0);
        Check.due("nothing goes back", net.left(0), 0);
    }

    /** Promise 14, "0 if it is over", also with seconds, and also when some are given back. */
    private static void promise14Over() {
        MeshBiller net = Scenes.at(2399);
        net.buy(0, 1, 500, 1, 0, 0);
        net.begin(0, 9, false);
        Check.due("a second ahead of it", net.left(0), 480);
        net.pass(1);
        Check.due("over", net.left(0), 0);
        net.leave(0);
        Check.due("what is given back is lost", net.left(0), 0);
        Check.due("there was such a bundle", Check.thrownBy(net, x -> x.left(0)), "nothing");
    }
}
