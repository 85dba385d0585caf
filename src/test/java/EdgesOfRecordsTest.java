/**
 * The terms of events, the tag, the seal, the stamp and the line, at their edges: one test for each sentence
 * that names one, which is told ahead of it. The long numbers were worked out apart from the class.
 */
public final class EdgesOfRecordsTest {
    public static void main(String[] args) {
        Check.runTests(EdgesOfRecordsTest.class);
    }

    /** "for the last one this is the first second for which the leg was not rated": with no second rated. */
    private static void termEventsEndWithoutASecond() {
        MeshBiller net = Scenes.at(7);
        net.begin(0, 1, false);
        net.leave(1);
        Check.due("the one that left", net.seal(1), new Seal(1).event(0, 7, 1).event(2, 7, 1).done());
        Check.due("the one that was left", net.seal(0), new Seal(0).event(0, 7, 0).event(2, 7, 0).done());
        net.setCap(0, 0);
        net.begin(0, 1, false);
        Check.due("CUT at once", net.seal(2), new Seal(0).event(0, 7, 0).event(2, 7, 0).done());
        net.begin(2, 3, false);
        net.move(2, 5);
        Check.due("DROPPED at once", net.seal(4), new Seal(2).event(0, 7, 2).event(2, 7, 2).done());
        Check.due("rated again", net.ratedByEvents(0) + net.ratedByEvents(2) + net.ratedByEvents(4), 0);
    }

    /** ".. the first second for which the leg was not rated": between seconds it is that of then. */
    private static void termEventsEndBetweenSeconds() {
        MeshBiller net = Scenes.inFullCall();
        net.pass(13);
        net.leave(0);
        net.move(1, 5);
        Check.due("ENDED", net.seal(0), new Seal(0).event(0, 0, 0).event(2, 13, 0).done());
        Check.due("DROPPED", net.seal(1), new Seal(1).event(0, 0, 1).event(2, 13, 1).done());
        net.pass(1);
        net.leave(2);
        Check.due("ENDED as the only one", net.seal(3), new Seal(3).event(0, 0, 3).event(2, 14, 3).done());
    }

    /** ".. the first second for which the leg was not rated": in a second, by whether its turn was already. */
    private static void termEventsEndInASecond() {
        MeshBiller ahead = Scenes.inCall();
        ahead.setCap(0, 0);
        ahead.pass(50);
        Check.due("CUT in the second 20", ahead.seal(0), new Seal(0).event(0, 0, 0).event(2, 20, 0).done());
        Check.due("not rated in it", ahead.seal(1), new Seal(1).event(0, 0, 1).event(2, 20, 1).done());
        Check.due("rated again", ahead.ratedByEvents(1), 400);
        MeshBiller behind = Scenes.inCall();
        behind.setCap(1, 0);
        behind.pass(50);
        Check.due("CUT in the second 20", behind.seal(1), new Seal(1).event(0, 0, 1).event(2, 20, 1).done());
        Check.due("rated in it", behind.seal(0), new Seal(0).event(0, 0, 0).event(2, 21, 0).done());
        Check.due("rated again", behind.ratedByEvents(0), 210);
    }

    /** "that it comes to another cell": not the one in which it is, not when it is in no call. */
    private static void termEventsComesToAnotherCell() {
        MeshBiller net = Scenes.rich();
        net.move(0, 7);
        net.move(0, 0);
        net.begin(0, 1, false);
        net.move(0, 0);
        Check.due("it began", net.seal(0), new Seal(0).event(0, 0, 0).done());
        net.move(0, 7);
        net.move(0, 7);
        Check.due("one other cell", net.seal(0), new Seal(0).event(0, 0, 0).event(1, 0, 7).done());
        net.leave(1);
        net.move(0, 6);
        Check.due("none when it is over", net.seal(0),
            new Seal(0).event(0, 0, 0).event(1, 0, 7).event(2, 0, 7).done());
    }

    /** "up to ahead of its end (of now, if it is not over)". */
    private static void termEventsRatedUpToItsEnd() {
        MeshBiller net = Scenes.inCall();
        for (int second = 0; second <= 3; second++) {
            Check.due("of now", net.ratedByEvents(0), 10 * second);
            net.pass(1);
        }
        net.leave(0);
        net.setRate(0, false, 999);
        net.pass(3);
        Check.due("of its end", net.ratedByEvents(0), 40);
    }

    /** "the cell in which it was in that second (if it came to several, the last of them)". */
    private static void termEventsSeveralCellsInASecond() {
        MeshBiller net = Scenes.inCall();
        net.pass(1);
        net.move(0, 1);
        net.move(0, 2);
        net.move(0, 1);
        net.pass(1);
        net.move(0, 2);
        net.move(0, 3);
        net.pass(1);
        Check.due("10, 20, 10", net.ratedByEvents(0), 40);
        Check.due("as charged", net.charged(0), 40);
        net.move(0, 2);
        net.leave(0);
        Check.due("a cell of no second costs nothing", net.ratedByEvents(0), 40);
    }

    /** "all rates that were ever set, with the seconds from which on they held": of a second, the last. */
    private static void termEventsAllRates() {
        MeshBiller net = Scenes.rich();
        net.setRate(0, false, 5);
        net.pass(3);
        net.setRate(0, false, 6);
        net.begin(0, 1, false);
        net.setRate(0, false, 7);
        net.setRate(0, false, 8);
        net.pass(2);
        net.setRate(0, false, 9);
        net.setRate(0, false, 8);
        net.pass(1);
        net.setRate(0, false, 0);
        net.pass(1);
        net.setRate(0, false, 1000);
        net.pass(1);
        Check.due("8, 8, 8, 0, 1000", net.ratedByEvents(0), 1024);
        net.setRate(0, false, 1);
        Check.due("a rate of a second that is not lived yet", net.ratedByEvents(0), 1024);
    }

    /** ".. and of that hour": rates of the other hours hold from when they are set, though they cost later. */
    private static void termEventsOfThatHour() {
        MeshBiller net = Scenes.at(798);
        net.begin(0, 1, false);
        net.setRate(0, true, 3);
        net.pass(3);
        Check.due("10, 10, 3", net.ratedByEvents(0), 23);
        net.setRate(0, true, 4);
        net.setRate(0, false, 5);
        net.pass(1);
        Check.due("and 4", net.ratedByEvents(0), 27);
        Check.passLong(net, 2000 - net.now());
        net.pass(1);
        Check.due("and 4 up to the second 1999, then 5", net.ratedByEvents(0), 23 + 1199 * 4 + 5);
        Check.due("as charged", net.charged(0), net.ratedByEvents(0));
    }

    /** ".. from its beginning": what was ahead of it costs nothing, also in the same hour. */
    private static void termEventsFromItsBeginning() {
        MeshBiller net = Scenes.at(850);
        net.setRate(0, true, 1000);
        net.pass(5);
        net.setRate(0, true, 2);
        net.pass(5);
        net.begin(0, 1, false);
        net.pass(5);
        Check.due("5 seconds", net.ratedByEvents(0), 10);
    }

    /** "(as zones are now)": those that were set ahead of the first call. */
    private static void termEventsZonesAreNow() {
        MeshBiller net = Scenes.rich();
        net.setZone(0, 2);
        net.setZone(0, 1);
        net.begin(0, 2, false);
        net.pass(1);
        Check.due("the zone 1", net.ratedByEvents(0), 20);
    }

    /** "The tag of a leg is a byte that begins as the number of its phone": 0 to 9. */
    private static void termTagBegins() {
        for (int phone = 0; phone < 10; phone++) {
            MeshBiller net = Scenes.rich();
            net.begin(phone, (phone + 1) % 10, false);
            Check.due("the host", net.tag(0), phone);
            Check.due("the other one", net.tag(1), (phone + 1) % 10);
        }
    }

    private static void tagGoes(int phone, int[] rates, int[] tags) {
        MeshBiller net = Scenes.rich();
        net.move(phone, 0);
        net.begin(phone, phone == 1 ? 2 : 1, false);
        for (int i = 0; i < rates.length; i++) {
            net.setRate(0, false, rates[i]);
            net.pass(1);
            Check.due("the tag by the rate " + rates[i], net.tag(0), tags[i]);
        }
    }

    /** "only the lowest 8 bits stay, as a byte from -128 to 127": the most, the least, and round between them. */
    private static void termTagCutTo8Bits() {
        tagGoes(0, new int[] {127, 3, 0, 1, 129}, new int[] {127, -128, -128, -127, 4});
        tagGoes(0, new int[] {128, 255}, new int[] {-128, 127});
        tagGoes(0, new int[] {0, 255, 3, 0}, new int[] {0, -1, 0, 0});
        tagGoes(0, new int[] {1000, 1000, 256}, new int[] {-24, -96, -32});
        tagGoes(9, new int[] {100, 101, 0}, new int[] {127, -30, -90});
        tagGoes(9, new int[] {101}, new int[] {-128});
    }

    /** "when the leg is rated": not by a second in which it is CUT, nor behind its end. */
    private static void termTagOnlyWhenRated() {
        MeshBiller net = Scenes.withMoney(10);
        net.begin(0, 9, false);
        net.pass(1);
        Check.due("rated", net.tag(0), 10);
        net.pass(5);
        Check.due("CUT", net.tag(0), 10);
        Check.due("ENDED behind no turn", net.tag(1), (byte) (9 * 3));
    }

    /** "The seal .. begins as the number of its phone, and for each event ..": with one event, and two. */
    private static void termSealOfOneEvent() {
        MeshBiller net = Scenes.rich();
        net.begin(9, 0, false);
        Check.due("of the phone 9: 9 * 32, and the cell 1", net.seal(0), 289);
        Check.due("of the phone 0: no bit", net.seal(1), 0);
        net.leave(9);
        Check.due("289 * 32 with 8 * 2 + 1", net.seal(0), 9265);
        Check.due("8 * 2 + 0", net.seal(1), 16);
    }

    /** "its 32 bits are turned 5 places up, those that fall out above come in below", with signs. */
    private static void termSealTurnsRound() {
        int[] seals = {9335, 298903, 9565164, 306078499, 1204708023, -104576869, 949360150, 314949667};
        MeshBiller net = Scenes.rich();
        net.begin(9, 0, false);
        for (int i = 0; i < seals.length; i++) {
            net.pass(3);
            net.move(9, i % 2 == 0 ? 2 : 1);
            Check.due("behind the move " + i, net.seal(0), seals[i]);
        }
    }

    /** "31 times the second is added, as ints go round": up to the last second. */
    private static void termSealOfTheLastSecond() {
        MeshBiller net = Scenes.at(49999);
        net.begin(9, 0, false);
        net.pass(1);
        net.move(9, 2);
        net.leave(9);
        Check.due("of three events", net.seal(0), 1638620233);
        MeshBiller last = Scenes.at(50000);
        last.begin(9, 0, false);
        Check.due("of its beginning", last.seal(0), 1550278);
    }

    /** "8 times the kind .., and the cell": the cells 0 and 7. */
    private static void termSealOfCells() {
        MeshBiller net = Scenes.rich();
        net.begin(7, 0, false);
        net.move(7, 0);
        net.move(0, 7);
        net.move(0, 6);
        Check.due("from 7 to 0", net.seal(0), new Seal(7).event(0, 0, 7).event(1, 0, 0).done());
        Check.due("from 0 to 7 and 6", net.seal(1),
            new Seal(0).event(0, 0, 0).event(1, 0, 7).event(1, 0, 6).done());
    }

    /** "for the end that in which it was last (if it is DROPPED, the one ahead of the move)": for lack of channels too. */
    private static void termSealOfADroppedLeg() {
        MeshBiller net = Scenes.inFullCall();
        net.move(0, 7);
        net.move(0, 3);
        Check.due("no neighbour", net.seal(0), new Seal(0).event(0, 0, 0).event(1, 0, 7).event(2, 0, 7).done());
        net.setChannels(2, 1, 0);
        net.move(1, 2);
        Check.due("no channel", net.seal(1), new Seal(1).event(0, 0, 1).event(2, 0, 1).done());
        net.move(2, 3);
        net.leave(2);
        Check.due("the cell to which it came", net.seal(2), new Seal(2).event(0, 0, 2).event(1, 0, 3).event(2, 0, 3).done());
    }

    /** "The stamp .. begins as the number of the call, and 1": of the calls 0 and 39. */
    private static void termStampBegins() {
        MeshBiller net = Scenes.inCall();
        Check.due("of two beginnings", net.stamp(0), 16417);
        net.leave(0);
        Check.due("of the call 0", net.stamp(0), 19505);
        Check.due("of the call 39", Scenes.withCalls(40).stamp(39), 658481);
    }

    /** "its 64 bits are turned 7 places up, likewise": so many legs that bits come in below. */
    private static void termStampTurnsRound() {
        int[] joined = {8, 9, 10, 12, 20};
        int[] stamps = {-400112545, 327147158, -1073959987, 584645448, -1556580179};
        MeshBiller net = Scenes.inCall();
        int legs = 0;
        for (int i = 0; i < joined.length; i++) {
            for (; legs < joined[i]; legs++) {
                net.join(2, 0, false);
                net.pass(100);
                net.leave(2);
            }
            Check.due("of " + (2 + legs) + " legs", net.stamp(0), stamps[i]);
        }
    }

    /** "and the seal of the leg, as a long, is added": with its sign. */
    private static void termStampOfASealWithASign() {
        MeshBiller net = Scenes.rich();
        net.begin(9, 0, false);
        for (int i = 0; i < 6; i++) {
            net.pass(3);
            net.move(9, i % 2 == 0 ? 2 : 1);
        }
        Check.due("its seal", net.seal(0), -104576869);
        Check.due("the stamp", net.stamp(0), 500920835);
        net.leave(0);
        Check.due("with the ends", net.stamp(0), 1259050786);
    }

    /** "for each of its legs": not those of other calls. */
    private static void termStampOfItsLegsAlone() {
        MeshBiller net = Scenes.inCall();
        net.begin(2, 3, false);
        net.begin(4, 5, false);
        Check.due("of the call 0", net.stamp(0), 16417);
        int before = net.stamp(1);
        net.pass(9);
        net.leave(0);
        net.leave(4);
        Check.due("of the call 1", net.stamp(1), before);
    }

    /** "The line of a leg": each of its signs, with the least and with many digits. */
    private static void termLine() {
        MeshBiller net = Scenes.rich();
        net.setCap(9, 0);
        net.begin(0, 9, false);
        Check.due("CUT without a second", Check.lineOf(net, 1), "P9C0:0=0+0!");
        Check.due("ENDED without a second", Check.lineOf(net, 0), "P0C0:0=0+0.");
        net.begin(7, 0, false);
        net.move(7, 3);
        Check.due("DROPPED without a second", Check.lineOf(net, 2), "P7C1:0=0+0?");
        net.begin(7, 0, false);
        Check.due("it goes on", Check.lineOf(net, 4), "P7C2:0=0+0~");
        Check.due("of the call 39", Check.lineOf(Scenes.withCalls(40), 79), "P1C39:0=0+0.");
    }

    /** ".. and how many seconds it was rated, .. what was charged .. covered": of the longest leg that can be. */
    private static void termLineOfTheLongest() {
        MeshBiller net = Scenes.rich();
        net.top(1, Scenes.MONEY);
        net.buy(0, 1, 5000, 30, 0, 0);
        net.begin(0, 1, false);
        Check.passLong(net, 50000);
        Check.due("with both", Check.lineOf(net, 0), "P0C0:50000=678000+74000~");
        Check.due("charged alone", Check.lineOf(net, 1), "P1C0:50000=1504000+0~");
    }
}
