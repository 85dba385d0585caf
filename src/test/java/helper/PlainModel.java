import java.util.ArrayList;
import java.util.Comparator;
import java.util.List;

/**
 * The document again, written in another way than the class: a log of all that was rated and of all events,
 * out of which each answer is summed up anew.
 */
final class PlainModel {
    private static final class L {
        int number, phone, call, payer, state = 0, begin;
        int sliceSeconds = 0, sliceRate = 0, sliceBundle = -1;
    }

    private static final class B {
        int number, wallet, zones, seconds, overSecond, rank;
    }

    private record Rated(L leg, int second, int rate, boolean isMoney) {
    }

    private record Event(L leg, int kind, int second, int cell) {
    }

    private record RateSet(int second, int zone, boolean isPeak, int rate) {
    }

    private final int[] zoneOf = new int[8], channels = new int[8], guarded = new int[8];
    private final int[] cellOf = new int[10], walletOf = new int[10], cap = new int[10];
    private final long[] money = new long[4];
    private final List<RateSet> rateSets = new ArrayList<>();
    private final List<B> bundles = new ArrayList<>();
    private final List<Integer> hosts = new ArrayList<>();
    private final List<L> legs = new ArrayList<>();
    private final List<Rated> rated = new ArrayList<>();
    private final List<Event> events = new ArrayList<>();
    private int second = 0, sliceLength = 20;

    PlainModel() {
        for (int c = 0; c < 8; c++) {
            zoneOf[c] = c % 3;
            channels[c] = 3;
        }
        for (int p = 0; p < 10; p++) {
            cellOf[p] = p % 8;
            walletOf[p] = p % 4;
            cap[p] = -1;
        }
        for (int z = 0; z < 3; z++) {
            rateSets.add(new RateSet(0, z, true, 20 * (z + 1)));
            rateSets.add(new RateSet(0, z, false, 10 * (z + 1)));
        }
    }

    /** One call of the face, by its name; a boolean counts 1 or 0. */
    long call(String name, int[] a) {
        switch (name) {
            case "setZone": return setZone(a[0], a[1]);
            case "setChannels": return setChannels(a[0], a[1], a[2]);
            case "setRate": return setRate(a[0], a[1] == 1, a[2]);
            case "setSlice": return setSlice(a[0]);
            case "setCap": return setCap(a[0], a[1]);
            case "setWallet": return setWallet(a[0], a[1]);
            case "top": return top(a[0], a[1]);
            case "give": return give(a[0], a[1], a[2]);
            case "buy": return buy(a);
            case "free": return money[index(a[0], 4)];
            case "aside": return aside(index(a[0], 4));
            case "spent": return spent(index(a[0], 4));
            case "left": return left(index(a[0], bundles.size()));
            case "begin": return begin(a[0], a[1], a[2] == 1);
            case "join": return join(a[0], a[1], a[2] == 1);
            case "leave": return leave(a[0]);
            case "move": return move(a[0], a[1]);
            case "pass": return pass(a[0]);
            case "now": return second;
            case "cellOf": return cellOf[index(a[0], 10)];
            case "rateOf": return rateAt(second, zoneOf[cellOf[index(a[0], 10)]]);
            case "legOf": return legOf(index(a[0], 10)) == null ? -1 : legOf(a[0]).number;
            case "sliceOf": return legOf(index(a[0], 10)) == null ? 0 : legOf(a[0]).sliceSeconds;
            case "parties": return partiesOf(index(a[0], hosts.size())).size();
            case "legs": return legs.size();
            case "stateOf": return legs.get(index(a[0], legs.size())).state;
            case "seconds": return secondsOf(legs.get(index(a[0], legs.size())));
            case "charged": return sumOf(index(a[0], legs.size()), true);
            case "covered": return sumOf(index(a[0], legs.size()), false);
            case "ratedByEvents": return ratedByEvents(legs.get(index(a[0], legs.size())));
            case "tag": return tag(legs.get(index(a[0], legs.size())));
            case "seal": return seal(legs.get(index(a[0], legs.size())));
            case "stamp": return stamp(index(a[0], hosts.size()));
            case "lineAt": return lineAt(index(a[0], legs.size()), a[1]);
            default: throw new UnsupportedOperationException(name);
        }
    }

    private static int index(int i, int size) {
        if (i < 0 || i >= size) throw new IndexOutOfBoundsException();
        return i;
    }

    private static void range(int v, int low, int high) {
        if (v < low || v > high) throw new IllegalArgumentException();
    }

    private static void state(boolean isGood) {
        if (!isGood) throw new IllegalStateException();
    }

    private long setZone(int cell, int zone) {
        index(cell, 8);
        range(zone, 0, 2);
        state(hosts.isEmpty());
        int before = zoneOf[cell];
        zoneOf[cell] = zone;
        return before;
    }

    private long legsIn(int cell) {
        return legs.stream().filter(l -> l.state == 0 && cellOf[l.phone] == cell).count();
    }

    private long setChannels(int cell, int most, int guards) {
        index(cell, 8);
        range(most, 0, 10);
        range(guards, 0, most);
        channels[cell] = most;
        guarded[cell] = guards;
        return legsIn(cell);
    }

    private static boolean isPeak(int at) {
        int hour = (at % 2400) / 100;
        return hour > 7 && hour < 20;
    }

    /** The rate of a zone in a second, by all rates that were set up to it. */
    private int rateAt(int at, int zone) {
        return lastRate(at, zone, isPeak(at));
    }

    private int lastRate(int at, int zone, boolean peak) {
        int rate = 0;
        for (RateSet s : rateSets) {
            if (s.second <= at && s.zone == zone && s.isPeak == peak) rate = s.rate;
        }
        return rate;
    }

    private long setRate(int zone, boolean peak, int rate) {
        range(zone, 0, 2);
        range(rate, 0, 1000);
        int before = lastRate(second, zone, peak);
        rateSets.add(new RateSet(second, zone, peak, rate));
        return before;
    }

    private long setSlice(int seconds) {
        range(seconds, 1, 100);
        int before = sliceLength;
        sliceLength = seconds;
        return before;
    }

    private long setCap(int phone, int most) {
        index(phone, 10);
        range(most, -1, 1000000);
        int before = cap[phone];
        cap[phone] = most;
        return before;
    }

    private long setWallet(int phone, int wallet) {
        index(phone, 10);
        index(wallet, 4);
        state(legOf(phone) == null);
        int before = walletOf[phone];
        walletOf[phone] = wallet;
        return before;
    }

    private long top(int wallet, int amount) {
        index(wallet, 4);
        range(amount, 1, 1000000);
        money[wallet] += amount;
        return money[wallet];
    }

    private long give(int wallet, int other, int amount) {
        index(wallet, 4);
        index(other, 4);
        range(amount, 1, 1000000);
        if (wallet == other) throw new IllegalArgumentException();
        state(money[wallet] >= amount);
        money[wallet] -= amount;
        money[other] += amount;
        return money[wallet];
    }

    private long buy(int[] a) {
        index(a[0], 4);
        range(a[1], 1, 7);
        range(a[2], 1, 5000);
        range(a[3], 1, 30);
        range(a[4], 0, 9);
        range(a[5], 0, 1000000);
        state(money[a[0]] >= a[5] && bundles.size() < 40);
        B b = new B();
        b.number = bundles.size();
        b.wallet = a[0];
        b.zones = a[1];
        b.seconds = a[2];
        b.overSecond = (second / 2400 + a[3]) * 2400;
        b.rank = a[4];
        money[a[0]] -= a[5];
        bundles.add(b);
        return b.number;
    }

    private long aside(int wallet) {
        long sum = 0;
        for (L l : legs) {
            if (l.state == 0 && l.payer == wallet && l.sliceBundle < 0) sum += (long) l.sliceSeconds * l.sliceRate;
        }
        return sum;
    }

    private long spent(int wallet) {
        return rated.stream().filter(r -> r.leg.payer == wallet && r.isMoney).mapToLong(r -> r.rate).sum();
    }

    private long left(int bundle) {
        B b = bundles.get(bundle);
        return second >= b.overSecond ? 0 : b.seconds;
    }

    private L legOf(int phone) {
        for (L l : legs) {
            if (l.phone == phone && l.state == 0) return l;
        }
        return null;
    }

    private List<L> partiesOf(int call) {
        List<L> all = new ArrayList<>();
        for (L l : legs) {
            if (l.call == call && l.state == 0) all.add(l);
        }
        return all;
    }

    private long begin(int host, int other, boolean isHosted) {
        index(host, 10);
        index(other, 10);
        if (host == other) throw new IllegalArgumentException();
        state(legOf(host) == null && legOf(other) == null);
        int a = cellOf[host], b = cellOf[other];
        state(legsIn(a) < channels[a] - guarded[a]);
        state(legsIn(b) + (a == b ? 1 : 0) < channels[b] - guarded[b]);
        state(hosts.size() < 40 && legs.size() < 79);
        hosts.add(host);
        L first = open(host, hosts.size() - 1, walletOf[host]);
        L second = open(other, hosts.size() - 1, isHosted ? walletOf[host] : walletOf[other]);
        if (!slice(first)) over(first, 2);
        if (second.state == 0 && !slice(second)) over(second, 2);
        return hosts.size() - 1;
    }

    private long join(int phone, int call, boolean isHosted) {
        index(phone, 10);
        index(call, hosts.size());
        int parties = partiesOf(call).size();
        int c = cellOf[phone];
        state(legOf(phone) == null && parties > 0 && parties < 4);
        state(legsIn(c) < channels[c] - guarded[c] && legs.size() < 80);
        L l = open(phone, call, walletOf[isHosted ? hosts.get(call) : phone]);
        if (!slice(l)) over(l, 2);
        return l.number;
    }

    private L open(int phone, int call, int payer) {
        L l = new L();
        l.number = legs.size();
        l.phone = phone;
        l.call = call;
        l.payer = payer;
        l.begin = second;
        legs.add(l);
        events.add(new Event(l, 0, second, cellOf[phone]));
        return l;
    }

    private void over(L l, int state) {
        back(l);
        int last = l.begin - 1;
        for (Rated r : rated) {
            if (r.leg == l) last = r.second;
        }
        l.state = state;
        events.add(new Event(l, 2, last + 1, cellOf[l.phone]));
        List<L> others = partiesOf(l.call);
        if (others.size() == 1) over(others.get(0), 1);
    }

    private void back(L l) {
        if (l.sliceBundle < 0) {
            money[l.payer] += (long) l.sliceSeconds * l.sliceRate;
        } else {
            bundles.get(l.sliceBundle).seconds += l.sliceSeconds;
        }
        l.sliceSeconds = 0;
    }

    private long leave(int phone) {
        index(phone, 10);
        L l = legOf(phone);
        state(l != null);
        over(l, 1);
        return partiesOf(l.call).size();
    }

    private long move(int phone, int cell) {
        index(phone, 10);
        index(cell, 8);
        L l = legOf(phone);
        int from = cellOf[phone];
        if (from == cell) return l == null ? 0 : 1;
        if (l != null) {
            boolean isNear = (from + 1) % 8 == cell || (cell + 1) % 8 == from;
            if (isNear && legsIn(cell) < channels[cell]) {
                events.add(new Event(l, 1, second, cell));
            } else {
                over(l, 3);
            }
        }
        cellOf[phone] = cell;
        return legOf(phone) == null ? 0 : 1;
    }

    private boolean covers(B b, int phone) {
        return second < b.overSecond && (b.zones & 1 << zoneOf[cellOf[phone]]) != 0;
    }

    private boolean slice(L l) {
        B best = bundles.stream().filter(b -> b.wallet == l.payer && covers(b, l.phone) && b.seconds > 0)
                .min(Comparator.comparingInt((B b) -> b.rank).thenComparingInt(b -> b.overSecond)
                        .thenComparingInt(b -> b.number)).orElse(null);
        if (best != null) {
            l.sliceBundle = best.number;
            l.sliceSeconds = Math.min(best.seconds, sliceLength);
            best.seconds -= l.sliceSeconds;
            return true;
        }
        int rate = rateAt(second, zoneOf[cellOf[l.phone]]);
        int seconds = paid(l, rate);
        if (seconds < 1) return false;
        l.sliceBundle = -1;
        l.sliceRate = rate;
        l.sliceSeconds = seconds;
        money[l.payer] -= (long) seconds * rate;
        return true;
    }

    /** As many seconds as money and cap pay, counted one by one. */
    private int paid(L l, int rate) {
        if (rate == 0) return sliceLength;
        long most = Long.MAX_VALUE;
        if (cap[l.phone] >= 0) {
            most = cap[l.phone];
            for (Rated r : rated) {
                if (r.leg.phone == l.phone && r.second / 2400 == second / 2400 && r.isMoney) most -= r.rate;
            }
        }
        while (most >= rate && money[l.payer] < rate) {
            L rich = null;
            for (int p = 9; p >= 0; p--) {
                L o = legOf(p);
                if (o == null || o == l || o.payer != l.payer || o.sliceBundle >= 0) continue;
                if (o.sliceRate == 0 || o.sliceSeconds < 2) continue;
                if (rich == null || o.sliceSeconds * o.sliceRate >= rich.sliceSeconds * rich.sliceRate) rich = o;
            }
            if (rich == null) break;
            int half = rich.sliceSeconds / 2;
            rich.sliceSeconds -= half;
            money[l.payer] += (long) half * rich.sliceRate;
        }
        int seconds = 0;
        while (seconds < sliceLength && (seconds + 1L) * rate <= Math.min(most, money[l.payer])) seconds++;
        return seconds;
    }

    private long pass(int seconds) {
        range(seconds, 1, 500);
        state(second + seconds <= 50000);
        long cuts = 0;
        for (int end = second + seconds; second < end; second++) {
            for (int p = 0; p < 10; p++) {
                L l = legOf(p);
                if (l == null) continue;
                int rate = rateAt(second, zoneOf[cellOf[p]]);
                if (l.sliceBundle < 0 ? l.sliceRate != rate : !covers(bundles.get(l.sliceBundle), p)) back(l);
                if (l.sliceSeconds == 0 && !slice(l)) {
                    over(l, 2);
                    cuts++;
                    continue;
                }
                l.sliceSeconds--;
                rated.add(new Rated(l, second, rate, l.sliceBundle < 0));
            }
        }
        return cuts;
    }

    private long secondsOf(L l) {
        return rated.stream().filter(r -> r.leg == l).count();
    }

    private long sumOf(int leg, boolean isMoney) {
        return rated.stream().filter(r -> r.leg.number == leg && r.isMoney == isMoney).mapToLong(r -> r.rate).sum();
    }

    private long ratedByEvents(L l) {
        int end = second;
        for (Event e : events) {
            if (e.leg == l && e.kind == 2) end = e.second;
        }
        long sum = 0;
        for (int at = l.begin; at < end; at++) {
            int cell = -1;
            for (Event e : events) {
                if (e.leg == l && e.kind < 2 && e.second <= at) cell = e.cell;
            }
            sum += rateAt(at, zoneOf[cell]);
        }
        return sum;
    }

    private long tag(L l) {
        int tag = l.phone;
        for (Rated r : rated) {
            if (r.leg == l) tag = (byte) (tag * 3 + r.rate);
        }
        return tag;
    }

    private int seal(L l) {
        int seal = l.phone;
        for (Event e : events) {
            if (e.leg == l) seal = Integer.rotateLeft(seal, 5) + 31 * e.second ^ (8 * e.kind + e.cell);
        }
        return seal ^ seal >>> 16;
    }

    private long stamp(int call) {
        long stamp = call + 1;
        for (L l : legs) {
            if (l.call == call) stamp = Long.rotateLeft(stamp, 7) + seal(l);
        }
        return (int) (stamp >>> 32) ^ (int) stamp;
    }

    private long lineAt(int leg, int place) {
        L l = legs.get(leg);
        if (place < 0) throw new IndexOutOfBoundsException();
        String line = "P" + l.phone + "C" + l.call + ":" + secondsOf(l) + "=" + sumOf(leg, true) + "+" + sumOf(leg, false)
                + "~.!?".charAt(l.state);
        return place < line.length() ? line.charAt(place) : -1;
    }
}
