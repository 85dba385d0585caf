/**
 * The terms of time, cells, phones, wallets, rates, calls and channels, at their edges: one test for each
 * sentence that names one, which is told ahead of it.
 */
public final class EdgesOfTermsTest {
    public static void main(String[] args) {
        Check.runTests(EdgesOfTermsTest.class);
    }

    /** "Time is told in seconds, from 0". */
    private static void termTimeFrom0() {
        MeshBiller net = Scenes.inCall();
        Check.due("the first second", net.now(), 0);
        net.pass(1);
        Check.due("it is lived as the others", net.seconds(0), 1);
        Check.due("its event", net.seal(0), new Seal(0).event(0, 0, 0).done());
    }

    /** "An hour has 100 seconds": its last one is the 99th behind its first. */
    private static void termTimeHourOf100Seconds() {
        MeshBiller net = Scenes.at(799);
        net.begin(0, 1, false);
        net.pass(1);
        Check.due("the second 799", net.charged(0), 10);
        net.pass(1);
        Check.due("the second 800", net.charged(0), 30);
        net.pass(99);
        Check.due("the hour 8", net.charged(0), 10 + 100 * 20);
        Check.due("rated again", net.ratedByEvents(0), 2010);
    }

    private static void rateIn(int second, int rate) {
        MeshBiller net = Scenes.at(second);
        Check.due("the rate in the second " + second, net.rateOf(0), rate);
        Check.due("in the zone 2", net.rateOf(2), 3 * rate);
        if (second < 50000) {
            net.begin(0, 1, false);
            net.pass(1);
            Check.due("charged in the second " + second, net.charged(0), rate);
            Check.due("rated again", net.ratedByEvents(0), rate);
        }
    }

    /** "The hours 8 to 19 are peak hours": neither 7 nor 20. */
    private static void termTimePeakHours() {
        rateIn(0, 10);
        rateIn(700, 10);
        rateIn(799, 10);
        rateIn(800, 20);
        rateIn(1900, 20);
        rateIn(1999, 20);
        rateIn(2000, 10);
        rateIn(2099, 10);
    }

    /** "a day 24 hours", "the second t is in the hour t / 100, modulo 24". */
    private static void termTimeHoursModulo24() {
        rateIn(2399, 10);
        rateIn(2400, 10);
        rateIn(3199, 10);
        rateIn(3200, 20);
        rateIn(4399, 20);
        rateIn(4400, 10);
    }

    /** ".. the hour t / 100, modulo 24", up to the last second. */
    private static void termTimeLastHours() {
        rateIn(48799, 10);
        rateIn(48800, 20);
        rateIn(49999, 20);
        rateIn(50000, 10);
    }

    /** "in the day t / 2400, rounded down": what ends with the day ends between 2399 and 2400, and each day later. */
    private static void termTimeDayRoundedDown() {
        for (int day = 1; day <= 20; day += 19) {
            MeshBiller net = Scenes.at(2400 * day - 1);
            net.buy(0, 1, 50, 1, 0, 0);
            Check.due("the last second of a day", net.left(0), 50);
            net.pass(1);
            Check.due("the first one of the next", net.left(0), 0);
        }
    }

    /** "Cells are 0 to 7, in a ring: each is a neighbour of the one with the next number, and 7 of 0". */
    private static void termCellsInARing() {
        for (int from = 0; from < 8; from++) {
            for (int to = 0; to < 8; to++) {
                MeshBiller net = Scenes.rich();
                net.setChannels(from, 10, 0);
                net.setChannels(to, 10, 0);
                net.move(2, from);
                net.move(3, from);
                net.begin(2, 3, false);
                boolean isNear = to == from || to == from + 1 || to == from - 1 || from == 7 && to == 0
                    || from == 0 && to == 7;
                Check.due("from " + from + " to " + to, net.move(2, to), isNear);
                Check.due("its leg", net.stateOf(0), isNear ? MeshBiller.GOES_ON : MeshBiller.DROPPED);
            }
        }
    }

    /** A leg goes round the ring, both ways. */
    private static void termCellsRoundTheRing() {
        MeshBiller net = Scenes.inCall();
        for (int step = 1; step <= 16; step++) {
            Check.due("up", net.move(0, step % 8), true);
        }
        for (int step = 15; step >= 0; step--) {
            Check.due("down", net.move(0, step % 8), true);
        }
    }

    /** "A cell has a zone, 0 to 2, at first its number modulo 3". */
    private static void termCellsZoneAtFirst() {
        int[] zones = {0, 1, 2, 0, 1, 2, 0, 1};
        for (int cell = 0; cell < 8; cell++) {
            MeshBiller net = Scenes.empty();
            net.move(0, cell);
            Check.due("its rate", net.rateOf(0), 10 * (zones[cell] + 1));
            Check.due("its zone", net.setZone(cell, 0), zones[cell]);
        }
    }

    /** "channels, 3 at first; and some of these are guarded, none at first". */
    private static void termCellsChannelsAtFirst() {
        for (int cell = 0; cell < 8; cell++) {
            int other = (cell + 4) % 8;
            MeshBiller net = Scenes.rich();
            for (int phone = 0; phone < 10; phone++) {
                net.move(phone, phone < 5 ? cell : other);
            }
            net.setChannels(other, 10, 0);
            net.begin(0, 1, false);
            Check.due("the third leg begins", net.begin(2, 5, false), 1);
            Check.due("the fourth does not", Check.thrownBy(net, x -> x.begin(6, 3, false)), "IllegalStateException");
            net.setChannels((cell + 1) % 8, 10, 0);
            net.move(8, (cell + 1) % 8);
            net.begin(8, 9, false);
            Check.due("the fourth does not come", net.move(8, cell), false);
        }
    }

    /** "the phone p is in the cell p modulo 8": 8 and 9 are in 0 and 1. */
    private static void termPhonesCellAtFirst() {
        for (int phone = 0; phone < 10; phone++) {
            Check.due("the cell", Scenes.empty().cellOf(phone), phone < 8 ? phone : phone - 8);
        }
    }

    /** "and has the wallet p modulo 4, at first". */
    private static void termPhonesWalletAtFirst() {
        int[] wallets = {0, 1, 2, 3, 0, 1, 2, 3, 0, 1};
        for (int phone = 0; phone < 10; phone++) {
            MeshBiller net = Scenes.rich();
            net.begin(phone, (phone + 1) % 10, false);
            Check.holds("it pays", net.aside(wallets[phone]) > 0);
            net.leave(phone);
            Check.due("the wallet", net.setWallet(phone, 0), wallets[phone]);
        }
    }

    /** "a wallet has free money, 0 at first, and bundles". */
    private static void termWalletsAtFirst() {
        MeshBiller net = Scenes.empty();
        Check.due("a call of two phones without money", net.begin(0, 1, false), 0);
        Check.due("is over", net.parties(0), 0);
        for (int wallet = 0; wallet < 4; wallet++) {
            Check.due("the first mill", net.top(wallet, 1), 1);
        }
    }

    /** "For each zone there are two rates .. 20 * (zone + 1) and 10 * (zone + 1) at first". */
    private static void termRatesAtFirst() {
        for (int phone = 0; phone < 3; phone++) {
            Check.due("for peak hours", Scenes.at(800).rateOf(phone), 20 * (phone + 1));
            Check.due("for the others", Scenes.at(0).rateOf(phone), 10 * (phone + 1));
        }
    }

    /** "The rate of now .. is that of the zone of its cell .. as rates are set now": of several, the last. */
    private static void termRatesAsTheyAreSetNow() {
        MeshBiller net = Scenes.inCall();
        net.setRate(0, false, 7);
        net.setRate(0, false, 8);
        Check.due("the last", net.rateOf(0), 8);
        net.pass(1);
        Check.due("is charged", net.charged(0), 8);
        Check.due("rated again", net.ratedByEvents(0), 8);
    }

    /** "Calls are numbered from 0; there can be 40". */
    private static void termCallsThereCanBe40() {
        MeshBiller net = Scenes.rich();
        for (int call = 0; call < 40; call++) {
            Check.due("the number", net.begin(0, 1, false), call);
            net.leave(1);
        }
        Check.refuses("no more", Check.STATE, () -> Scenes.withCalls(40), x -> x.begin(0, 1, false));
    }

    /** "further phones can join it, so that it has up to 4 at a time": more than 4, one after another. */
    private static void termCallsUpTo4AtATime() {
        MeshBiller net = Scenes.inFullCall();
        for (int phone = 4; phone < 10; phone++) {
            net.leave(phone - 4);
            net.join(phone, 0, false);
            Check.due("parties", net.parties(0), 4);
        }
        Check.due("all legs", net.legs(), 10);
        Check.refuses("five", Check.STATE, Scenes::inFullCall, x -> x.join(5, 0, true));
    }

    /** "Each phone that is in a call has a leg of it, from when it begins or joins on". */
    private static void termLegsFromWhenItJoinsOn() {
        MeshBiller net = Scenes.inCall();
        net.pass(5);
        net.join(2, 0, false);
        net.pass(1);
        Check.due("a second of its own", net.seconds(2), 1);
        Check.due("from the second 5 on", net.seal(2), new Seal(2).event(0, 5, 2).done());
        Check.due("rated again", net.ratedByEvents(2), 30);
    }

    /** "legs are numbered from 0, there can be 80". */
    private static void termLegsThereCanBe80() {
        MeshBiller net = Scenes.inCall();
        Check.due("the first", net.legOf(0), 0);
        for (int leg = 2; leg < 80; leg++) {
            Check.due("the number", net.join(2, 0, false), leg);
            net.leave(2);
        }
        Check.due("no more", Check.thrownBy(net, x -> x.join(2, 0, false)), "IllegalStateException");
        Check.due("the call goes on", net.parties(0), 2);
    }

    /** "A phone can be in one call at a time". */
    private static void termCallsOneAtATime() {
        MeshBiller net = Scenes.inCall();
        net.begin(2, 3, false);
        for (int phone = 0; phone < 4; phone++) {
            int p = phone;
            Check.due("begin", Check.thrownBy(net, x -> x.begin(p, 4, false)), "IllegalStateException");
            Check.due("be called", Check.thrownBy(net, x -> x.begin(4, p, false)), "IllegalStateException");
            Check.due("join", Check.thrownBy(net, x -> x.join(p, 1 - p / 2, false)), "IllegalStateException");
        }
        net.leave(0);
        Check.due("one call behind the other", net.join(0, 1, false), 4);
    }

    /** "A leg is paid by the wallet that its phone has": that of then, and all along. */
    private static void termLegsPaidByTheWalletOfItsPhone() {
        MeshBiller net = Scenes.empty();
        net.setWallet(0, 3);
        net.top(3, 1000);
        net.top(1, 1000);
        net.begin(0, 1, false);
        Check.due("that of then", net.aside(3), 200);
        Check.due("not the first one", net.free(0), 0);
    }

    /** "or, if it is hosted, by the one that the host has when the leg begins, also if the host has left by then". */
    private static void termLegsHostedAlsoIfTheHostHasLeft() {
        MeshBiller net = Scenes.inCall();
        net.join(2, 0, true);
        Check.due("the host is there", net.aside(0), 200 + 600);
        net.leave(0);
        Check.due("it has left, the leg stays", net.aside(0), 600);
        net.join(3, 0, true);
        Check.due("it has left by then", net.aside(0), 600 + 200);
        net.setWallet(0, 3);
        Check.due("those that have begun stay", net.aside(0), 800);
        net.join(4, 0, true);
        Check.due("the one that it has when the leg begins", net.aside(3), 400);
        net.pass(25);
        Check.due("next slices are paid likewise", net.spent(3), 25 * 20);
        Check.due("and by the other wallet", net.spent(0), 25 * 30 + 25 * 10);
        Check.due("a wallet of a hosted one pays nothing", net.spent(2), 0);
    }

    /** "the one that the host has", when the host is in another call by then. */
    private static void termLegsHostedWhenTheHostIsElsewhere() {
        MeshBiller net = Scenes.inFullCall();
        net.leave(0);
        net.setWallet(0, 2);
        net.begin(5, 0, true);
        int before = net.aside(2);
        net.join(6, 0, true);
        Check.due("paid by the wallet 2", net.aside(2), before + 200);
    }

    /** "The leg of the host is not hosted": it is paid by its own wallet, and so are all that are not. */
    private static void termLegsTheHostIsNotHosted() {
        MeshBiller net = Scenes.rich();
        net.begin(1, 2, true);
        Check.due("both", net.aside(1), 400 + 600);
        net.join(3, 0, false);
        Check.due("one that is not hosted", net.aside(3), 200);
        MeshBiller again = Scenes.inCall();
        again.join(2, 0, false);
        again.leave(0);
        again.setWallet(0, 3);
        again.join(0, 0, false);
        Check.due("the host that comes again", again.aside(3), 200);
    }

    /** "it begins only if fewer legs than the channels that are not guarded are in that cell". */
    private static void termChannelsFewerLegs() {
        for (int legs = 0; legs <= 4; legs++) {
            for (int open = 0; open <= 6; open++) {
                MeshBiller net = Scenes.rich();
                net.setChannels(0, 10, 0);
                for (int i = 0; i < legs; i++) {
                    net.move(2 + i, 0);
                    net.setChannels(7, 10, 0);
                    net.move(6 + i % 4, 7);
                }
                for (int i = 0; i < legs; i++) {
                    net.begin(2 + i, 6 + i, false);
                }
                net.setChannels(0, open + 3, 3);
                String want = legs < open ? "nothing" : "IllegalStateException";
                Check.due(legs + " legs, " + open + " open", Check.thrownBy(net, x -> x.begin(0, 1, false)), want);
            }
        }
    }

    /** "its leg goes on there, if that is a neighbour, and fewer legs are in it than it has channels". */
    private static void termChannelsOfAnotherCell() {
        for (int legs = 0; legs <= 2; legs++) {
            for (int channels = 0; channels <= 4; channels++) {
                MeshBiller net = Scenes.rich();
                net.move(2, 1);
                net.move(3, 1);
                for (int i = 0; i < legs; i++) {
                    net.begin(2 + i, 4 + i, false);
                }
                net.begin(0, 6, false);
                net.setChannels(1, channels, channels);
                boolean isRoom = legs < channels;
                Check.due(legs + " legs, " + channels + " channels", net.move(0, 1), isRoom);
                Check.due("its leg", net.stateOf(2 * legs), isRoom ? MeshBiller.GOES_ON : MeshBiller.DROPPED);
                Check.due("the legs in the cell", net.setChannels(1, 0, 0), legs + (isRoom ? 1 : 0));
            }
        }
    }

    /** "otherwise the leg is DROPPED": a cell that is no neighbour, with all channels. */
    private static void termChannelsNoNeighbour() {
        MeshBiller net = Scenes.inCall();
        net.setChannels(2, 10, 0);
        Check.due("two cells on", net.move(0, 2), false);
        Check.due("DROPPED", net.stateOf(0), MeshBiller.DROPPED);
        Check.due("the phone is there", net.cellOf(0), 2);
        Check.due("its leg takes no channel", net.setChannels(2, 10, 0), 0);
        Check.due("nor one where it was", net.setChannels(0, 3, 0), 0);
    }

    /** A leg that goes on elsewhere leaves its channel to the next one. */
    private static void termChannelsAreLeft() {
        MeshBiller net = Scenes.rich();
        net.setChannels(0, 1, 0);
        net.begin(0, 2, false);
        Check.due("taken", Check.thrownBy(net, x -> x.begin(8, 3, false)), "IllegalStateException");
        net.move(0, 1);
        Check.due("left", net.begin(8, 3, false), 1);
        Check.due("no way back", net.move(0, 0), false);
    }

    /** "When a call is begun, both legs begin, then that of the host gets its first slice". */
    private static void termBeginBothLegsBegin() {
        MeshBiller net = Scenes.empty();
        net.top(1, 1000);
        net.begin(0, 1, false);
        Check.due("two legs", net.legs(), 2);
        Check.due("the host got none", net.stateOf(0), MeshBiller.CUT);
        Check.due("the other one did not come to its slice", net.stateOf(1), MeshBiller.ENDED);
        Check.due("it began, and is over", net.seal(1), new Seal(1).event(0, 0, 1).event(2, 0, 1).done());
        Check.due("its money", net.free(1), 1000);
    }

    /** ".. then that of the other one": the host's slice goes back when the other one is CUT. */
    private static void termBeginThenTheOtherOne() {
        MeshBiller net = Scenes.empty();
        net.top(0, 1000);
        net.begin(0, 1, false);
        Check.due("the host ENDS", net.stateOf(0), MeshBiller.ENDED);
        Check.due("the other one is CUT", net.stateOf(1), MeshBiller.CUT);
        Check.due("the slice of the host went back", net.free(0), 1000);
        Check.due("no money is aside", net.aside(0), 0);
    }

    /** "A leg ENDS when its phone leaves, and when it is the only one that is left of its call". */
    private static void termLegsEndsAsTheOnlyOne() {
        MeshBiller net = Scenes.inFullCall();
        net.leave(0);
        Check.due("three are left", net.stateOf(1), MeshBiller.GOES_ON);
        net.leave(1);
        Check.due("two are left", net.stateOf(2), MeshBiller.GOES_ON);
        net.move(2, 7);
        Check.due("the other one was DROPPED", net.stateOf(2), MeshBiller.DROPPED);
        Check.due("one is left", net.stateOf(3), MeshBiller.ENDED);
        MeshBiller cut = Scenes.inCall();
        cut.setCap(0, 0);
        cut.pass(21);
        Check.due("the other one was CUT", cut.stateOf(1), MeshBiller.ENDED);
    }

    /** "What a slice of a leg that ENDS, is CUT or DROPPED has left goes back": to the money, and to a bundle. */
    private static void termLegsWhatIsLeftGoesBack() {
        for (int way = 0; way < 3; way++) {
            MeshBiller net = Scenes.rich();
            net.buy(1, 2, 50, 1, 0, 0);
            net.begin(0, 1, false);
            net.pass(7);
            if (way == 0) {
                net.leave(0);
            } else if (way == 1) {
                net.move(0, 3);
            } else {
                net.move(1, 4);
            }
            Check.due("money", net.free(0), Scenes.MONEY - 70);
            Check.due("aside", net.aside(0), 0);
            Check.due("the bundle", net.left(0), 43);
            Check.due("its wallet", net.free(1), Scenes.MONEY);
        }
    }

    /** What goes back of an empty slice is nothing. */
    private static void termLegsNothingGoesBack() {
        MeshBiller net = Scenes.rich();
        net.buy(1, 2, 20, 1, 0, 0);
        net.begin(0, 1, false);
        net.pass(20);
        net.leave(0);
        Check.due("money", net.free(0), Scenes.MONEY - 200);
        Check.due("the bundle", net.left(0), 0);
    }
}
