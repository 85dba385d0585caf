import java.util.ArrayList;

/**
 * A network of phones with its rating engine and its prepaid wallets.
 *
 * The second of now is not lived yet: calls of the face come ahead of it, and pass lives it. So what
 * begins, moves or is set now holds for this second already.
 */
public final class MeshBiller {
    public static final int NONE = -1;
    public static final int GOES_ON = 0, ENDED = 1, CUT = 2, DROPPED = 3;

    private static final int CELLS = 8, ZONES = 3, PHONES = 10, WALLETS = 4;
    private static final int MOST_BUNDLES = 40, MOST_CALLS = 40, MOST_LEGS = 80, MOST_PARTIES = 4;
    private static final int MOST_CHANNELS = 10, MOST_RATE = 1000, MOST_LENGTH = 100, MOST_MONEY = 1000000;
    private static final int DEAREST_SLICE = MOST_LENGTH * MOST_RATE;
    private static final int MOST_BUNDLE_SECONDS = 5000, MOST_DAYS = 30, MOST_RANK = 9, ALL_ZONES = 7;
    private static final int MOST_PASSED = 500, LAST_SECOND = 50000;
    private static final int HOUR = 100, HOURS = 24, DAY = 2400, FIRST_PEAK_HOUR = 8, LAST_PEAK_HOUR = 19;
    private static final int BEGINNING = 0, OTHER_CELL = 1, END = 2;
    /** More than the 512 calls of an object can make of one kind: only behind them is anything not kept. */
    private static final int MOST_KEPT = 600;
    /** Ten slices of a hundred seconds are halved far less often than this until none has two left. */
    private static final int MOST_HALVINGS = 1000;

    private final Zone[] zones = new Zone[ZONES];
    private final Cell[] cells = new Cell[CELLS];
    private final Wallet[] wallets = new Wallet[WALLETS];
    private final Phone[] phones = new Phone[PHONES];
    private final ArrayList<Bundle> allBundles = new ArrayList<>();
    private final ArrayList<Call> allCalls = new ArrayList<>();
    private final ArrayList<Leg> allLegs = new ArrayList<>();
    private int sliceLength = 20;
    private int second = 0;

    public MeshBiller() {
        for (int i = 0; i < ZONES; i++) {
            zones[i] = new Zone(i);
        }
        for (int i = 0; i < CELLS; i++) {
            cells[i] = new Cell(i, zones[i % ZONES]);
        }
        for (int i = 0; i < WALLETS; i++) {
            wallets[i] = new Wallet(i);
        }
        for (int i = 0; i < PHONES; i++) {
            phones[i] = new Phone(i, cells[i % CELLS], wallets[i % WALLETS]);
        }
    }

    // ---- cells, rates, phones

    public int setZone(int cell, int zone)
            throws IndexOutOfBoundsException, IllegalArgumentException, IllegalStateException {
        Cell changed = cellAt(cell);
        if (isOutside(zone, 0, ZONES - 1)) {
            throw new IllegalArgumentException("zone is out of range");
        }
        if (!allCalls.isEmpty()) {
            throw new IllegalStateException("a call has been begun");
        }
        int before = changed.zone.number;
        changed.zone = zones[zone];
        return before;
    }

    public int setChannels(int cell, int channels, int guarded)
            throws IndexOutOfBoundsException, IllegalArgumentException {
        Cell changed = cellAt(cell);
        if (isOutside(channels, 0, MOST_CHANNELS) || isOutside(guarded, 0, channels)) {
            throw new IllegalArgumentException("channels or guarded is out of range");
        }
        changed.channels = channels;
        changed.guarded = guarded;
        return legsIn(changed);
    }

    public int setRate(int zone, boolean isPeak, int rate) throws IllegalArgumentException {
        if (isOutside(zone, 0, ZONES - 1) || isOutside(rate, 0, MOST_RATE)) {
            throw new IllegalArgumentException("zone or rate is out of range");
        }
        RateHistory history = zones[zone].historyFor(isPeak);
        int before = history.latest;
        history.change(second, rate);
        return before;
    }

    public int setSlice(int seconds) throws IllegalArgumentException {
        if (isOutside(seconds, 1, MOST_LENGTH)) {
            throw new IllegalArgumentException("seconds is out of range");
        }
        int before = sliceLength;
        sliceLength = seconds;
        return before;
    }

    public int setCap(int phone, int cap) throws IndexOutOfBoundsException, IllegalArgumentException {
        Phone capped = phoneAt(phone);
        if (cap != NONE && isOutside(cap, 0, MOST_MONEY)) {
            throw new IllegalArgumentException("cap is out of range");
        }
        int before = capped.cap;
        capped.cap = cap;
        return before;
    }

    public int setWallet(int phone, int wallet) throws IndexOutOfBoundsException, IllegalStateException {
        Phone owner = phoneAt(phone);
        Wallet given = walletAt(wallet);
        if (owner.leg != null) {
            throw new IllegalStateException("the phone is in a call");
        }
        int before = owner.wallet.number;
        owner.wallet = given;
        return before;
    }

    // ---- wallets

    public int top(int wallet, int amount) throws IndexOutOfBoundsException, IllegalArgumentException {
        Wallet topped = walletAt(wallet);
        if (isOutside(amount, 1, MOST_MONEY)) {
            throw new IllegalArgumentException("amount is out of range");
        }
        topped.money += amount;
        return topped.money;
    }

    public int give(int wallet, int other, int amount)
            throws IndexOutOfBoundsException, IllegalArgumentException, IllegalStateException {
        Wallet giver = walletAt(wallet);
        Wallet taker = walletAt(other);
        if (wallet == other || isOutside(amount, 1, MOST_MONEY)) {
            throw new IllegalArgumentException("both wallets are the same, or amount is out of range");
        }
        if (giver.money < amount) {
            throw new IllegalStateException("too little free money");
        }
        giver.money -= amount;
        taker.money += amount;
        return giver.money;
    }

    public int buy(int wallet, int zones, int seconds, int days, int rank, int price)
            throws IndexOutOfBoundsException, IllegalArgumentException, IllegalStateException {
        Wallet buyer = walletAt(wallet);
        if (isOutside(zones, 1, ALL_ZONES) || isOutside(seconds, 1, MOST_BUNDLE_SECONDS)
                || isOutside(days, 1, MOST_DAYS) || isOutside(rank, 0, MOST_RANK)
                || isOutside(price, 0, MOST_MONEY)) {
            throw new IllegalArgumentException("zones, seconds, days, rank or price is out of range");
        }
        if (buyer.money < price || allBundles.size() >= MOST_BUNDLES) {
            throw new IllegalStateException("too little free money, or too many bundles");
        }
        int number = allBundles.size();
        buyer.money -= price;
        Bundle bundle = new Bundle(zones, seconds, dayOf(second) + days, rank);
        buyer.addInOrderOfUse(bundle);
        allBundles.add(bundle);
        return number;
    }

    public int free(int wallet) throws IndexOutOfBoundsException {
        return walletAt(wallet).money;
    }

    public int aside(int wallet) throws IndexOutOfBoundsException {
        Wallet payer = walletAt(wallet);
        int sum = 0;
        for (Phone phone : phones) {
            if (phone.leg != null && phone.leg.payer == payer) {
                sum += phone.leg.slice.moneyLeft();
            }
        }
        return sum;
    }

    public int spent(int wallet) throws IndexOutOfBoundsException {
        return walletAt(wallet).chargedSoFar;
    }

    public int left(int bundle) throws IndexOutOfBoundsException {
        if (bundle < 0 || bundle >= allBundles.size()) {
            throw new IndexOutOfBoundsException("no such bundle");
        }
        Bundle asked = allBundles.get(bundle);
        return asked.isOver(dayOf(second)) ? 0 : asked.seconds;
    }

    // ---- calls

    public int begin(int host, int other, boolean isHosted)
            throws IndexOutOfBoundsException, IllegalArgumentException, IllegalStateException {
        Phone caller = phoneAt(host);
        Phone called = phoneAt(other);
        if (host == other) {
            throw new IllegalArgumentException("both phones are the same");
        }
        if (caller.leg != null || called.leg != null) {
            throw new IllegalStateException("one of both is in a call");
        }
        int needed = caller.cell == called.cell ? 2 : 1;
        if (openChannels(caller.cell) < needed || openChannels(called.cell) < needed) {
            throw new IllegalStateException("there are no channels for both");
        }
        if (allCalls.size() >= MOST_CALLS || allLegs.size() + 2 > MOST_LEGS) {
            throw new IllegalStateException("too many calls or legs");
        }
        Call call = new Call(allCalls.size(), caller);
        allCalls.add(call);
        Leg callerLeg = openLeg(caller, call, false);
        Leg calledLeg = openLeg(called, call, isHosted);
        takeSliceOrCut(callerLeg);
        if (calledLeg.state == GOES_ON) {
            takeSliceOrCut(calledLeg);
        }
        return call.number;
    }

    public int join(int phone, int call, boolean isHosted)
            throws IndexOutOfBoundsException, IllegalStateException {
        Phone joining = phoneAt(phone);
        Call joined = callAt(call);
        int parties = joined.countParties();
        if (joining.leg != null || parties == 0 || parties >= MOST_PARTIES) {
            throw new IllegalStateException("the phone is in a call, or the call is over or full");
        }
        if (openChannels(joining.cell) < 1 || allLegs.size() >= MOST_LEGS) {
            throw new IllegalStateException("there is no channel, or there are too many legs");
        }
        Leg leg = openLeg(joining, joined, isHosted);
        takeSliceOrCut(leg);
        return leg.number;
    }

    public int leave(int phone) throws IndexOutOfBoundsException, IllegalStateException {
        Leg leg = phoneAt(phone).leg;
        if (leg == null) {
            throw new IllegalStateException("the phone is in no call");
        }
        closeLeg(leg, ENDED);
        return leg.call.countParties();
    }

    public boolean move(int phone, int cell) throws IndexOutOfBoundsException {
        Phone moving = phoneAt(phone);
        Cell target = cellAt(cell);
        Leg leg = moving.leg;
        if (target == moving.cell) {
            return leg != null;
        }
        if (leg != null) {
            if (moving.cell.isNextTo(target) && legsIn(target) < target.channels) {
                leg.keepEvent(OTHER_CELL, second, target);
            } else {
                // Ahead of the change of the cell: the end counts in the cell that the leg was in.
                closeLeg(leg, DROPPED);
            }
        }
        moving.cell = target;
        return moving.leg != null;
    }

    public int pass(int seconds) throws IllegalArgumentException, IllegalStateException {
        if (isOutside(seconds, 1, MOST_PASSED)) {
            throw new IllegalArgumentException("seconds is out of range");
        }
        if (second + seconds > LAST_SECOND) {
            throw new IllegalStateException("the second would be above the last one");
        }
        int cuts = 0;
        for (int i = 0; i < seconds; i++) {
            cuts += liveSecond();
        }
        return cuts;
    }

    // ---- what there is

    public int now() {
        return second;
    }

    public int cellOf(int phone) throws IndexOutOfBoundsException {
        return phoneAt(phone).cell.number;
    }

    public int rateOf(int phone) throws IndexOutOfBoundsException {
        return rateNow(phoneAt(phone));
    }

    public int legOf(int phone) throws IndexOutOfBoundsException {
        Leg leg = phoneAt(phone).leg;
        return leg == null ? NONE : leg.number;
    }

    public int sliceOf(int phone) throws IndexOutOfBoundsException {
        Leg leg = phoneAt(phone).leg;
        return leg == null ? 0 : leg.slice.seconds;
    }

    public int parties(int call) throws IndexOutOfBoundsException {
        return callAt(call).countParties();
    }

    public int legs() {
        return allLegs.size();
    }

    public int stateOf(int leg) throws IndexOutOfBoundsException {
        return legAt(leg).state;
    }

    public int seconds(int leg) throws IndexOutOfBoundsException {
        return legAt(leg).ratedSeconds;
    }

    public int charged(int leg) throws IndexOutOfBoundsException {
        return legAt(leg).chargedMoney;
    }

    public int covered(int leg) throws IndexOutOfBoundsException {
        return legAt(leg).coveredMoney;
    }

    public int ratedByEvents(int leg) throws IndexOutOfBoundsException {
        ArrayList<Event> events = legAt(leg).events;
        int sum = 0;
        for (int i = 0; i < events.size(); i++) {
            Event event = events.get(i);
            if (event.kind != END) {
                int until = i + 1 < events.size() ? events.get(i + 1).second : second;
                sum += costOfStay(event.cell.zone, event.second, until);
            }
        }
        return sum;
    }

    public int tag(int leg) throws IndexOutOfBoundsException {
        return legAt(leg).tagByte;
    }

    public int seal(int leg) throws IndexOutOfBoundsException {
        return legAt(leg).computeSeal();
    }

    public int stamp(int call) throws IndexOutOfBoundsException {
        Call stamped = callAt(call);
        long mixed = stamped.number + 1;
        for (int i = 0; i < stamped.members.size(); i++) {
            mixed = mixed << 7 | mixed >>> 57;
            mixed += stamped.members.get(i).computeSeal();
        }
        return (int) (mixed >> 32) ^ (int) mixed;
    }

    public int lineAt(int leg, int place) throws IndexOutOfBoundsException {
        Leg shown = legAt(leg);
        if (place < 0) {
            throw new IndexOutOfBoundsException("place is below 0");
        }
        StringBuilder line = new StringBuilder();
        line.append('P').append(shown.phone.number).append('C').append(shown.call.number);
        line.append(':').append(shown.ratedSeconds).append('=').append(shown.chargedMoney);
        line.append('+').append(shown.coveredMoney).append(signOf(shown.state));
        if (place >= line.length()) {
            return NONE;
        }
        return line.charAt(place);
    }

    // ---- looking things up

    private static boolean isOutside(int value, int least, int most) {
        return value < least || value > most;
    }

    private Cell cellAt(int cell) {
        if (cell < 0 || cell >= cells.length) {
            throw new IndexOutOfBoundsException("no such cell");
        }
        return cells[cell];
    }

    private Phone phoneAt(int phone) {
        if (phone < 0 || phone >= phones.length) {
            throw new IndexOutOfBoundsException("no such phone");
        }
        return phones[phone];
    }

    private Wallet walletAt(int wallet) {
        if (wallet < 0 || wallet >= wallets.length) {
            throw new IndexOutOfBoundsException("no such wallet");
        }
        return wallets[wallet];
    }

    private Call callAt(int call) {
        if (call < 0 || call >= allCalls.size()) {
            throw new IndexOutOfBoundsException("no such call");
        }
        return allCalls.get(call);
    }

    private Leg legAt(int leg) {
        if (leg < 0 || leg >= allLegs.size()) {
            throw new IndexOutOfBoundsException("no such leg");
        }
        return allLegs.get(leg);
    }

    private static char signOf(int state) {
        switch (state) {
            case ENDED:
                return '.';
            case CUT:
                return '!';
            case DROPPED:
                return '?';
            default:
                return '~';
        }
    }

    // ---- time and rates

    private static int dayOf(int second) {
        return second / DAY;
    }

    private static boolean isPeakAt(int second) {
        int hour = second / HOUR % HOURS;
        return hour >= FIRST_PEAK_HOUR && hour <= LAST_PEAK_HOUR;
    }

    private int rateNow(Phone phone) {
        return phone.cell.zone.historyFor(isPeakAt(second)).latest;
    }

    /** What the seconds from start up to ahead of stop cost in a zone, hour by hour, as an hour is peak or not. */
    private static int costOfStay(Zone zone, int start, int stop) {
        int sum = 0;
        for (int hourStart = start - start % HOUR; hourStart < stop; hourStart += HOUR) {
            int from = Math.max(start, hourStart);
            int until = Math.min(stop, hourStart + HOUR);
            sum += zone.historyFor(isPeakAt(hourStart)).costOf(from, until);
        }
        return sum;
    }

    // ---- channels

    private int legsIn(Cell cell) {
        int count = 0;
        for (Phone phone : phones) {
            if (phone.leg != null && phone.cell == cell) {
                count++;
            }
        }
        return count;
    }

    private int openChannels(Cell cell) {
        return cell.channels - cell.guarded - legsIn(cell);
    }

    // ---- the life of a leg

    private Leg openLeg(Phone phone, Call call, boolean isHosted) {
        Wallet payer = isHosted ? call.host.wallet : phone.wallet;
        Leg leg = new Leg(allLegs.size(), phone, call, payer, second);
        leg.keepEvent(BEGINNING, second, phone.cell);
        phone.leg = leg;
        call.members.add(leg);
        allLegs.add(leg);
        return leg;
    }

    private void takeSliceOrCut(Leg leg) {
        if (!takeSlice(leg)) {
            closeLeg(leg, CUT);
        }
    }

    /** Ends a leg, and with it the last one of its call, if only that is left. */
    private void closeLeg(Leg leg, int state) {
        finishLeg(leg, state);
        Leg last = leg.call.findOnlyParty();
        if (last != null) {
            finishLeg(last, ENDED);
        }
    }

    private void finishLeg(Leg leg, int state) {
        giveBack(leg);
        leg.keepEvent(END, leg.firstUnratedSecond(), leg.phone.cell);
        leg.state = state;
        leg.phone.leg = null;
    }

    /** Answers how many legs are CUT in the second. */
    private int liveSecond() {
        int cuts = 0;
        for (Phone phone : phones) {
            if (phone.leg != null && !isLived(phone.leg)) {
                cuts++;
            }
        }
        second++;
        return cuts;
    }

    /** Lives the second of now for a leg; answers false if it is CUT instead. */
    private boolean isLived(Leg leg) {
        int rate = rateNow(leg.phone);
        if (!isSliceFit(leg, rate)) {
            giveBack(leg);
        }
        if (leg.slice.seconds < 1 && !takeSlice(leg)) {
            closeLeg(leg, CUT);
            return false;
        }
        leg.useSecond(rate, dayOf(second));
        return true;
    }

    // ---- slices

    private boolean isSliceFit(Leg leg, int rate) {
        Bundle bundle = leg.slice.bundle;
        if (bundle == null) {
            return leg.slice.rate == rate;
        }
        return !bundle.isOver(dayOf(second)) && bundle.isFor(leg.phone.cell.zone);
    }

    private void giveBack(Leg leg) {
        Slice slice = leg.slice;
        if (slice.bundle == null) {
            leg.payer.money += slice.moneyLeft();
        } else if (!slice.bundle.isOver(dayOf(second))) {
            slice.bundle.seconds += slice.seconds;
        }
        slice.seconds = 0;
    }

    /** Sets a slice aside for a leg that has no seconds left; answers false if it gets none. */
    private boolean takeSlice(Leg leg) {
        Bundle bundle = leg.payer.findBundle(leg.phone.cell.zone, dayOf(second));
        if (bundle != null) {
            leg.slice.takeFromBundle(bundle, Math.min(sliceLength, bundle.seconds));
            return true;
        }
        int rate = rateNow(leg.phone);
        int length = sliceLength;
        if (rate > 0) {
            length = Math.min(length, leg.phone.mostByCap(dayOf(second)) / rate);
            if (length > 0) {
                raiseMoney(leg, rate);
            }
            length = Math.min(length, leg.payer.money / rate);
        }
        if (length < 1) {
            return false;
        }
        leg.payer.money -= length * rate;
        leg.slice.takeFromMoney(length, rate);
        return true;
    }

    /** Lets slices of other legs be halved until the wallet pays a second of this one, or none can be halved. */
    private void raiseMoney(Leg leg, int rate) {
        for (int i = 0; i < MOST_HALVINGS && leg.payer.money < rate; i++) {
            Leg richest = findRichestOther(leg);
            if (richest == null) {
                return;
            }
            int given = richest.slice.seconds / 2;
            richest.slice.seconds -= given;
            leg.payer.money += given * richest.slice.rate;
        }
    }

    private Leg findRichestOther(Leg leg) {
        Leg richest = null;
        int most = 0;
        for (Phone phone : phones) {
            Leg other = phone.leg;
            if (other != null && other != leg && other.payer == leg.payer && other.slice.seconds >= 2
                    && other.slice.moneyLeft() > most) {
                richest = other;
                most = other.slice.moneyLeft();
            }
        }
        return richest;
    }

    // ---- what the network is made of

    private static final class Zone {
        final int number;
        final RateHistory peak;
        final RateHistory offPeak;

        Zone(int number) {
            this.number = number;
            peak = new RateHistory(20 * (number + 1));
            offPeak = new RateHistory(10 * (number + 1));
        }

        RateHistory historyFor(boolean isPeak) {
            return isPeak ? peak : offPeak;
        }
    }

    /** A rate with all that it ever was: legs are rated again from this. */
    private static final class RateHistory {
        final ArrayList<RateStep> steps = new ArrayList<>();
        int latest;

        RateHistory(int rate) {
            latest = rate;
            steps.add(new RateStep(0, rate));
        }

        void change(int second, int rate) {
            latest = rate;
            if (steps.size() < MOST_KEPT) {
                steps.add(new RateStep(second, rate));
            }
        }

        /** A step that another one of the same second follows holds for no second, so it costs nothing. */
        int costOf(int start, int stop) {
            int sum = 0;
            for (int i = 0; i < steps.size(); i++) {
                RateStep step = steps.get(i);
                int from = Math.max(start, step.since);
                int until = i + 1 < steps.size() ? Math.min(stop, steps.get(i + 1).since) : stop;
                sum += Math.max(0, until - from) * step.rate;
            }
            return sum;
        }
    }

    private static final class RateStep {
        final int since;
        final int rate;

        RateStep(int since, int rate) {
            this.since = since;
            this.rate = rate;
        }
    }

    private static final class Cell {
        final int number;
        Zone zone;
        int channels = 3;
        int guarded = 0;

        Cell(int number, Zone zone) {
            this.number = number;
            this.zone = zone;
        }

        boolean isNextTo(Cell other) {
            int distance = Math.abs(number - other.number);
            return distance == 1 || distance == CELLS - 1;
        }
    }

    private static final class Phone {
        final int number;
        Cell cell;
        Wallet wallet;
        int cap = NONE;
        /** The leg that goes on; null if the phone is in no call. */
        Leg leg = null;
        int costDay = 0;
        int costOfDay = 0;

        Phone(int number, Cell cell, Wallet wallet) {
            this.number = number;
            this.cell = cell;
            this.wallet = wallet;
        }

        void addCost(int money, int day) {
            if (costDay != day) {
                costDay = day;
                costOfDay = 0;
            }
            costOfDay += money;
        }

        /** How much money its leg may set aside in a day, when nothing is set aside for it; below 0 if it cost more. */
        int mostByCap(int day) {
            if (cap == NONE) {
                return DEAREST_SLICE;
            }
            return costDay == day ? cap - costOfDay : cap;
        }
    }

    private static final class Wallet {
        final int number;
        /** In their order of use. */
        final ArrayList<Bundle> bundles = new ArrayList<>();
        int money = 0;
        int chargedSoFar = 0;

        Wallet(int number) {
            this.number = number;
        }

        /** Behind all bundles that are to be used as early: these have lower numbers. */
        void addInOrderOfUse(Bundle bundle) {
            int place = bundles.size();
            for (int i = bundles.size() - 1; i >= 0 && bundle.isUsedAhead(bundles.get(i)); i--) {
                place = i;
            }
            bundles.add(place, bundle);
        }

        Bundle findBundle(Zone zone, int day) {
            for (int i = 0; i < bundles.size(); i++) {
                Bundle bundle = bundles.get(i);
                if (bundle.isFor(zone) && !bundle.isOver(day) && bundle.seconds > 0) {
                    return bundle;
                }
            }
            return null;
        }
    }

    private static final class Bundle {
        final int zoneBits;
        final int overDay;
        final int rank;
        int seconds;

        Bundle(int zoneBits, int seconds, int overDay, int rank) {
            this.zoneBits = zoneBits;
            this.seconds = seconds;
            this.overDay = overDay;
            this.rank = rank;
        }

        boolean isFor(Zone zone) {
            return (zoneBits >> zone.number & 1) == 1;
        }

        boolean isOver(int day) {
            return day >= overDay;
        }

        boolean isUsedAhead(Bundle other) {
            return rank < other.rank || rank == other.rank && overDay < other.overDay;
        }
    }

    private static final class Call {
        final int number;
        final Phone host;
        /** All legs that it ever had, by rising numbers. */
        final ArrayList<Leg> members = new ArrayList<>();

        Call(int number, Phone host) {
            this.number = number;
            this.host = host;
        }

        int countParties() {
            int count = 0;
            for (int i = 0; i < members.size(); i++) {
                if (members.get(i).state == GOES_ON) {
                    count++;
                }
            }
            return count;
        }

        /** The leg that goes on alone; null if none or several go on. */
        Leg findOnlyParty() {
            Leg only = null;
            for (int i = 0; i < members.size(); i++) {
                Leg leg = members.get(i);
                if (leg.state == GOES_ON) {
                    if (only != null) {
                        return null;
                    }
                    only = leg;
                }
            }
            return only;
        }
    }

    /** Seconds that are set aside: from a bundle, or from money if there is none. */
    private static final class Slice {
        int seconds = 0;
        int rate = 0;
        Bundle bundle = null;

        void takeFromBundle(Bundle source, int length) {
            source.seconds -= length;
            bundle = source;
            rate = 0;
            seconds = length;
        }

        void takeFromMoney(int length, int rateOfThen) {
            bundle = null;
            rate = rateOfThen;
            seconds = length;
        }

        int moneyLeft() {
            return bundle == null ? seconds * rate : 0;
        }
    }

    private static final class Leg {
        final int number;
        final Phone phone;
        final Call call;
        final Wallet payer;
        final int start;
        final Slice slice = new Slice();
        final ArrayList<Event> events = new ArrayList<>();
        int state = GOES_ON;
        int ratedSeconds = 0;
        int chargedMoney = 0;
        int coveredMoney = 0;
        byte tagByte;

        Leg(int number, Phone phone, Call call, Wallet payer, int start) {
            this.number = number;
            this.phone = phone;
            this.call = call;
            this.payer = payer;
            this.start = start;
            tagByte = (byte) phone.number;
        }

        void keepEvent(int kind, int second, Cell cell) {
            if (events.size() < MOST_KEPT) {
                events.add(new Event(kind, second, cell));
            }
        }

        /** A leg is rated in each second from its beginning on, until it is over. */
        int firstUnratedSecond() {
            return start + ratedSeconds;
        }

        void useSecond(int rate, int day) {
            slice.seconds--;
            ratedSeconds++;
            if (slice.bundle == null) {
                chargedMoney += rate;
                payer.chargedSoFar += rate;
                phone.addCost(rate, day);
            } else {
                coveredMoney += rate;
            }
            tagByte = (byte) (3 * tagByte + rate);
        }

        int computeSeal() {
            int mixed = phone.number;
            for (int i = 0; i < events.size(); i++) {
                Event event = events.get(i);
                mixed = mixed << 5 | mixed >>> 27;
                mixed += 31 * event.second;
                mixed ^= 8 * event.kind + event.cell.number;
            }
            return mixed ^ mixed >>> 16;
        }
    }

    private static final class Event {
        final int kind;
        final int second;
        final Cell cell;

        Event(int kind, int second, Cell cell) {
            this.kind = kind;
            this.second = second;
            this.cell = cell;
        }
    }
}
