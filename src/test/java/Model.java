import java.util.ArrayList;
import java.util.Comparator;
import java.util.HashMap;
import java.util.List;
import java.util.Map;
import java.util.NoSuchElementException;
import java.util.function.IntUnaryOperator;

/** The document told a second time, in the plainest form and without care for speed. */
public final class Model {
    private static final int NONE = -1;

    private int now = 0;
    private int makers = 0;
    private int schemes = 0;
    private int offersEver = 0;
    private int faultPlace = NONE;
    private StringBuilder tape = new StringBuilder();
    private final List<ModelText> laws = new ArrayList<>();
    private final List<Packet> packets = new ArrayList<>();
    private final List<int[]> tellings = new ArrayList<>();
    private final List<int[]> joins = new ArrayList<>();
    private final List<int[]> loads = new ArrayList<>();
    private final List<int[]> notes = new ArrayList<>();
    private final List<int[]> samples = new ArrayList<>();
    private final Map<Integer, int[]> offers = new HashMap<>();
    private final List<int[]> bought = new ArrayList<>();
    private final Map<String, Integer> nobodys = new HashMap<>();
    private final Map<String, Long> billed = new HashMap<>();
    private final Map<Integer, Integer> paid = new HashMap<>();

    /** A packet: its maker, makes (grams and cost), the make as it is made, what is sold by years. */
    private static final class Packet {
        final int maker;
        int made = 0;
        final List<int[]> makes = new ArrayList<>();
        final Map<Integer, int[]> sales = new HashMap<>();

        Packet(int maker) {
            this.maker = maker;
        }

        int[] sale(int year) {
            return sales.getOrDefault(year, new int[] {0, 0, 1});
        }

        int grams(int sort) {
            return makes.isEmpty() ? 0 : makes.get(made)[sort];
        }

        int layers() {
            return makes.isEmpty() ? 0 : layersOf(makes.get(made));
        }
    }

    private static int layersOf(int[] make) {
        int layers = 0;
        for (int sort = 0; sort < 5; sort++) {
            layers += make[sort] > 0 ? 1 : 0;
        }
        return layers;
    }

    private static void argument(boolean fits) {
        if (!fits) {
            throw new IllegalArgumentException();
        }
    }

    private static void index(boolean fits) {
        if (!fits) {
            throw new IndexOutOfBoundsException();
        }
    }

    private static void such(boolean fits) {
        if (!fits) {
            throw new NoSuchElementException();
        }
    }

    private static boolean in(int value, int least, int most) {
        return least <= value && value <= most;
    }

    private static void sortAndYear(int sort, int year) {
        argument(in(sort, 0, 4) && in(year, 0, 40));
    }

    private void isMaker(int maker) {
        such(in(maker, 0, makers - 1));
    }

    private Packet packetAt(int packet) {
        such(in(packet, 0, packets.size() - 1));
        return packets.get(packet);
    }

    private void isScheme(int scheme) {
        index(in(scheme, 0, schemes - 1));
    }

    public int years(int years) {
        argument(in(years, 0, 40));
        if (now + years > 40) {
            throw new IllegalStateException();
        }
        return now += years;
    }

    public int feed(int a, int b, int c, int d, int e) {
        if (tape.length() > 380) {
            return NONE;
        }
        for (int n : new int[] {a, b, c, d, e}) {
            tape.append((char) (n >>> 24)).append((char) (n >> 16 & 255)).append((char) (n >> 8 & 255)).append((char) (n & 255));
        }
        return tape.length();
    }

    private ModelText read(int n) {
        ModelText text = new ModelText(tape.substring(0, n));
        tape = new StringBuilder();
        faultPlace = text.faultPlace;
        return text;
    }

    public int law(int year, int n) {
        argument(in(year, 0, 40) && in(n, 0, tape.length()));
        if (laws.size() == 10) {
            tape = new StringBuilder();
            faultPlace = NONE;
            return NONE;
        }
        ModelText text = read(n);
        if (text.faultKind != 0) {
            return text.faultKind - 10;
        }
        text.from = year;
        laws.add(text);
        return laws.size() - 1;
    }

    public int fault() {
        return faultPlace;
    }

    private List<ModelText.Clause> inForce(String kind, int sort, int year) {
        List<ModelText.Clause> all = new ArrayList<>();
        for (ModelText law : laws) {
            for (ModelText.Clause c : law.clauses) {
                if (law.from <= year && c.kind.equals(kind) && (c.sort == NONE || c.sort == sort)) {
                    all.add(c);
                }
            }
        }
        return all;
    }

    private int told(String kind, int sort, int year, int without) {
        List<ModelText.Clause> all = inForce(kind, sort, year);
        return all.isEmpty() ? without : all.get(all.size() - 1).number;
    }

    public int tells(int year, int sort, int what) {
        sortAndYear(sort, year);
        argument(in(what, 0, 5));
        String[] kinds = {"target", "off", "towns", "least", "trips", "orphans"};
        int[] without = {0, 100, 0, 0, 1, 0};
        return told(kinds[what], sort, year, without[what]);
    }

    public int why(int year, int sort) {
        sortAndYear(sort, year);
        int where = NONE;
        for (int law = 0; law < laws.size(); law++) {
            for (int i = 0; i < laws.get(law).clauses.size(); i++) {
                ModelText.Clause c = laws.get(law).clauses.get(i);
                if (laws.get(law).from <= year && c.kind.equals("fee") && c.sort == sort) {
                    where = 100 * law + i;
                }
            }
        }
        return where;
    }

    public int maker() {
        if (makers == 10) {
            throw new IllegalStateException();
        }
        return makers++;
    }

    public int packet(int maker) {
        isMaker(maker);
        if (packets.size() == 20) {
            return NONE;
        }
        packets.add(new Packet(maker));
        return packets.size() - 1;
    }

    public int make(int packet, int paper, int glass, int tin, int film, int mixed, int cost) {
        Packet p = packetAt(packet);
        int[] make = {paper, glass, tin, film, mixed, cost};
        for (int sort = 0; sort < 5; sort++) {
            argument(in(make[sort], 0, 200));
        }
        argument(in(cost, 0, 1000));
        if (p.makes.size() == 5) {
            return NONE;
        }
        p.makes.add(make);
        return p.makes.size() - 1;
    }

    public int made(int packet, int make) {
        Packet p = packetAt(packet);
        argument(in(make, 0, p.makes.size() - 1));
        int was = p.made;
        p.made = make;
        return was;
    }

    public int sold(int packet, int year, int sold, int abroad, int trips) {
        Packet p = packetAt(packet);
        argument(in(year, 0, 40) && in(sold, 0, 1000) && in(abroad, 0, sold) && in(trips, 1, 50));
        int was = p.sale(year)[0];
        p.sales.put(year, new int[] {sold, abroad, trips});
        return was;
    }

    public int kilos(int packet, int sort, int year) {
        Packet p = packetAt(packet);
        sortAndYear(sort, year);
        int[] sale = p.sale(year);
        int counted = 100 * sale[0] - told("off", sort, year, 100) * sale[1];
        return p.grams(sort) * counted / 100 / Math.min(sale[2], told("trips", NONE, year, 1));
    }

    public int truly(int maker, int sort, int year) {
        isMaker(maker);
        sortAndYear(sort, year);
        int sum = 0;
        for (int p = 0; p < packets.size(); p++) {
            sum += packets.get(p).maker == maker ? kilos(p, sort, year) : 0;
        }
        return sum;
    }

    public int declare(int maker, int sort, int year, int kilos) {
        isMaker(maker);
        argument(in(sort, 0, 4) && in(year, 0, now) && in(kilos, 0, 10000000));
        if (tellings.size() == 200) {
            return NONE;
        }
        tellings.add(new int[] {maker, sort, year, kilos, now});
        return tellings.size();
    }

    public int declared(int maker, int sort, int year, int known) {
        isMaker(maker);
        sortAndYear(sort, year);
        for (int i = tellings.size() - 1; i >= 0; i--) {
            int[] t = tellings.get(i);
            if (t[0] == maker && t[1] == sort && t[2] == year && t[4] <= known) {
                return t[3];
            }
        }
        return 0;
    }

    private int[] declaredOf(int maker, int year, int known) {
        int[] kilos = new int[5];
        for (int sort = 0; sort < 5; sort++) {
            kilos[sort] = declared(maker, sort, year, known);
        }
        return kilos;
    }

    private static int sum(int[] kilos) {
        int sum = 0;
        for (int k : kilos) {
            sum += k;
        }
        return sum;
    }

    public boolean small(int maker, int year, int known) {
        isMaker(maker);
        argument(in(year, 0, 40));
        return sum(declaredOf(maker, year, known)) < told("least", NONE, year, 0);
    }

    /** The fee of a maker if it had declared so many kilograms. */
    private long feeIf(int maker, int year, int known, int[] own) {
        if (sum(own) < told("least", NONE, year, 0)) {
            return 0;
        }
        long coins = 0;
        for (int sort = 0; sort < 5; sort++) {
            coins += (long) own[sort] * rate(maker, sort, year, known, own[sort]) / 1000;
        }
        return coins;
    }

    private int rate(int maker, int sort, int year, int known, int own) {
        List<ModelText.Clause> fees = inForce("fee", sort, year);
        if (fees.isEmpty()) {
            return 100;
        }
        long all = own;
        for (int m = 0; m < makers; m++) {
            all += m == maker ? 0 : declared(m, sort, year, known);
        }
        int grams = 0;
        int layers = 0;
        for (Packet p : packets) {
            grams += p.maker == maker ? p.grams(sort) : 0;
            layers = Math.max(layers, p.maker == maker ? p.layers() : 0);
        }
        int share = all == 0 ? 0 : (int) (own * 100L / all);
        int value = fees.get(fees.size() - 1).sum.value(facts(year, own, share, grams, layers));
        return Math.min(100000, Math.max(0, value));
    }

    private static Map<String, Integer> facts(int year, int kilos, int share, int grams, int layers) {
        return Map.of("year", year, "kilos", kilos, "share", share, "grams", grams, "layers", layers);
    }

    public long fee(int maker, int year, int known) {
        isMaker(maker);
        argument(in(year, 0, 40));
        return feeIf(maker, year, known, declaredOf(maker, year, known));
    }

    public long bill(int maker, int year) {
        long fee = fee(maker, year, now);
        Long before = billed.put(maker + " " + year, fee);
        return fee - (before == null ? 0 : before);
    }

    public long tried(int maker, int year, int n) {
        isMaker(maker);
        argument(in(year, 0, 40) && in(n, 0, tape.length()));
        ModelText text = read(n);
        if (text.faultKind != 0) {
            return text.faultKind - 10;
        }
        text.from = 0;
        laws.add(text);
        long fee = fee(maker, year, now);
        laws.remove(laws.size() - 1);
        return fee;
    }

    public boolean banned(int packet, int make, int year) {
        Packet p = packetAt(packet);
        argument(in(make, 0, p.makes.size() - 1) && in(year, 0, 40));
        int[] it = p.makes.get(make);
        for (int sort = 0; sort < 5; sort++) {
            for (ModelText.Clause c : inForce("ban", sort, year)) {
                if (it[sort] > 0 && c.condition.holds(facts(year, 0, 0, it[sort], layersOf(it)))) {
                    return true;
                }
            }
        }
        return false;
    }

    public long cheapest(int maker, int year, int what) {
        isMaker(maker);
        argument(in(year, 0, 40) && in(what, -1, 4));
        List<Integer> first = new ArrayList<>();
        for (int p = 0; p < packets.size(); p++) {
            if (packets.get(p).maker == maker && first.size() < 5) {
                first.add(p);
            }
        }
        List<Integer> was = new ArrayList<>();
        for (int p : first) {
            was.add(packets.get(p).made);
        }
        long[] best = {NONE, NONE, NONE, NONE, NONE, NONE};
        tryRows(maker, year, first, 0, best);
        for (int i = 0; i < first.size(); i++) {
            packets.get(first.get(i)).made = was.get(i);
        }
        return best[what + 1];
    }

    /** Makes the packets in every lawful way, one behind the other, and keeps the first best row. */
    private void tryRows(int maker, int year, List<Integer> first, int at, long[] best) {
        if (at == first.size()) {
            long coins = 0;
            for (int p : first) {
                coins += (long) packets.get(p).makes.get(packets.get(p).made)[5] * packets.get(p).sale(year)[0];
            }
            int[] own = new int[5];
            for (int sort = 0; sort < 5; sort++) {
                own[sort] = truly(maker, sort, year);
            }
            coins += feeIf(maker, year, now, own);
            if (best[0] < 0 || coins < best[0]) {
                best[0] = coins;
                for (int i = 0; i < first.size(); i++) {
                    best[i + 1] = packets.get(first.get(i)).made;
                }
            }
            return;
        }
        Packet p = packets.get(first.get(at));
        for (int make = 0; make < p.makes.size(); make++) {
            if (!banned(first.get(at), make, year)) {
                p.made = make;
                tryRows(maker, year, first, at + 1, best);
            }
        }
    }

    public int scheme() {
        if (schemes == 4) {
            throw new IllegalStateException();
        }
        return schemes++;
    }

    public int join(int maker, int scheme, int year) {
        isMaker(maker);
        index(in(scheme, -1, schemes - 1));
        argument(in(year, 0, 40));
        if (joins.size() == 60) {
            return NONE;
        }
        joins.add(new int[] {maker, scheme, year});
        return joins.size();
    }

    public int in(int maker, int year) {
        isMaker(maker);
        argument(in(year, 0, 40));
        for (int from = year; from >= 0; from--) {
            for (int i = joins.size() - 1; i >= 0; i--) {
                if (joins.get(i)[0] == maker && joins.get(i)[2] == from) {
                    return joins.get(i)[1];
                }
            }
        }
        return NONE;
    }

    private long makersWeight(int maker, int sort, int year, int known) {
        return small(maker, year, known) ? 0 : declared(maker, sort, year, known);
    }

    private long weight(int scheme, int sort, int year, int known) {
        long sum = 0;
        for (int m = 0; m < makers; m++) {
            sum += in(m, year) == scheme ? makersWeight(m, sort, year, known) : 0;
        }
        return sum;
    }

    private static List<Long> parted(long whole, List<Long> weights) {
        long all = 0;
        for (long w : weights) {
            all += w;
        }
        List<Long> parts = new ArrayList<>();
        List<Integer> order = new ArrayList<>();
        long over = all == 0 ? 0 : whole;
        for (int i = 0; i < weights.size(); i++) {
            parts.add(all == 0 ? 0 : whole * weights.get(i) / all);
            over -= parts.get(i);
            order.add(i);
        }
        long sum = all;
        // the sort keeps the order of alike ones
        order.sort(Comparator.comparing(i -> sum == 0 ? 0 : -(whole * weights.get(i) % sum)));
        for (int i = 0; i < over; i++) {
            parts.set(order.get(i), parts.get(order.get(i)) + 1);
        }
        return parts;
    }

    private long orphansOf(int scheme, int sort, int year, int known) {
        int kilos = nobodys.getOrDefault(sort + " " + year, 0);
        List<Long> weights = new ArrayList<>();
        if (told("orphans", NONE, year, 0) == 1) {
            for (int s = 0; s < schemes; s++) {
                weights.add(weight(s, sort, year, known));
            }
            return parted(kilos, weights).get(scheme);
        }
        for (int m = 0; m < makers; m++) {
            weights.add(makersWeight(m, sort, year, known));
        }
        long sum = 0;
        for (int m = 0; m < makers; m++) {
            sum += in(m, year) == scheme ? parted(kilos, weights).get(m) : 0;
        }
        return sum;
    }

    public long owes(int scheme, int sort, int year, int known, int what) {
        isScheme(scheme);
        sortAndYear(sort, year);
        argument(in(what, 0, 4));
        long weight = weight(scheme, sort, year, known);
        long orphans = orphansOf(scheme, sort, year, known);
        long bound = weight * told("target", sort, year, 0) / 100 + orphans;
        long evidence = 0;
        for (int i = 0; i < notes.size(); i++) {
            int[] n = notes.get(i);
            boolean counts = n[3] == scheme && n[1] == sort && loads.get(n[0])[1] == year && n[4] <= known;
            evidence += counts && !forged(i) ? n[2] : 0;
        }
        for (int[] b : bought) {
            evidence += b[0] == scheme && b[1] == sort && b[2] == year && b[3] <= known ? b[4] : 0;
        }
        long[] all = {weight, bound, evidence, Math.max(0, bound - evidence), orphans};
        return all[what];
    }

    public int orphans(int sort, int year, int kilos) {
        sortAndYear(sort, year);
        argument(in(kilos, 0, 1000000));
        Integer was = nobodys.put(sort + " " + year, kilos);
        return was == null ? 0 : was;
    }

    public int load(int town, int kilos, int paper, int glass, int tin, int film, int loss) {
        argument(in(town, 0, 5) && in(kilos, 1, 20000) && in(loss, 0, 50));
        argument(in(paper, 0, 100) && in(glass, 0, 100) && in(tin, 0, 100) && in(film, 0, 100));
        argument(paper + glass + tin + film <= 100);
        if (loads.size() == 60) {
            return NONE;
        }
        loads.add(new int[] {town, now, kilos, loss, paper, glass, tin, film, 100 - paper - glass - tin - film});
        return loads.size() - 1;
    }

    private int out(int[] load, int sort) {
        int part = load[2] * load[4 + sort] / 100;
        return part * (100 - load[3]) / 100;
    }

    public int out(int load, int what) {
        index(in(load, 0, loads.size() - 1));
        argument(in(what, 0, 6));
        int[] it = loads.get(load);
        if (what < 5) {
            return out(it, what);
        }
        IntUnaryOperator grade = mixed -> mixed > 40 ? 3 : mixed > 15 ? 2 : mixed > 5 ? 1 : 0;
        return what == 6 ? it[1] : grade.applyAsInt(it[8]);
    }

    public int note(int load, int sort, int kilos, int scheme) {
        index(in(load, 0, loads.size() - 1));
        isScheme(scheme);
        argument(in(sort, 0, 4) && in(kilos, 1, 20000));
        if (notes.size() == 100) {
            return NONE;
        }
        notes.add(new int[] {load, sort, kilos, scheme, now});
        return notes.size() - 1;
    }

    public boolean forged(int note) {
        index(in(note, 0, notes.size() - 1));
        int[] it = notes.get(note);
        int left = out(loads.get(it[0]), it[1]);
        boolean forged = false;
        for (int i = 0; i <= note; i++) {
            int[] n = notes.get(i);
            if (n[0] == it[0] && n[1] == it[1]) {
                forged = n[2] > left;
                left -= forged ? 0 : n[2];
            }
        }
        return forged;
    }

    public long pay(int town, int year, int scheme) {
        index(in(scheme, -1, schemes - 1));
        argument(in(town, 0, 5) && in(year, 0, 40));
        long coins = 0;
        for (int load = 0; load < loads.size(); load++) {
            for (int sort = 0; sort < 5; sort++) {
                if (loads.get(load)[0] == town && loads.get(load)[1] == year) {
                    coins += (long) out(load, sort) * told("towns", sort, year, 0) / 1000 / (1 + out(load, 5));
                }
            }
        }
        if (scheme == NONE) {
            return coins;
        }
        List<Long> weights = new ArrayList<>();
        for (int s = 0; s < schemes; s++) {
            long sum = 0;
            for (int sort = 0; sort < 5; sort++) {
                sum += weight(s, sort, year, now);
            }
            weights.add(sum);
        }
        return parted(coins, weights).get(scheme);
    }

    public int offer(int sort, int kilos, int price) {
        argument(in(sort, 0, 4) && in(kilos, 1, 100000) && in(price, 0, 100000));
        if (offersEver == 12) {
            return NONE;
        }
        offers.put(offersEver, new int[] {sort, kilos, price});
        return offersEver++;
    }

    /** The set to be bought: its price, kilograms and bits; null if there is none. */
    private int[] setToBuy(int scheme, int sort, int year) {
        long enough = owes(scheme, sort, year, now, 3);
        if (enough == 0) {
            return new int[] {0, 0, 0};
        }
        List<int[]> sets = new ArrayList<>();
        sets.add(new int[] {0, 0, 0});
        for (int id : offers.keySet().stream().sorted().toList()) {
            int[] o = offers.get(id);
            if (o[0] == sort) {
                for (int i = sets.size() - 1; i >= 0; i--) {
                    int[] s = sets.get(i);
                    sets.add(new int[] {s[0] + o[2], s[1] + o[1], s[2] | 1 << id});
                }
            }
        }
        sets.removeIf(s -> s[1] < enough);
        // the bits turned round: the set with the least offer of its own comes out greater
        Comparator<int[]> first = Comparator.comparing(s -> -(Integer.reverse(s[2]) >>> 1));
        sets.sort(Comparator.<int[], Integer>comparing(s -> s[0]).thenComparing(s -> s[1]).thenComparing(first));
        return sets.isEmpty() ? null : sets.get(0);
    }

    public int buying(int scheme, int sort, int year, int what) {
        isScheme(scheme);
        sortAndYear(sort, year);
        argument(in(what, 0, 1));
        int[] set = setToBuy(scheme, sort, year);
        return set == null ? NONE : what == 0 ? set[0] : set[2];
    }

    public int buy(int scheme, int sort, int year) {
        isScheme(scheme);
        sortAndYear(sort, year);
        int[] set = setToBuy(scheme, sort, year);
        if (set == null) {
            return NONE;
        }
        for (int id = 0; id < 12; id++) {
            if ((set[2] >> id & 1) == 1) {
                offers.remove(id);
            }
        }
        bought.add(new int[] {scheme, sort, year, now, set[1]});
        paid.merge(scheme, set[0], Integer::sum);
        return set[0];
    }

    public int paid(int scheme) {
        isScheme(scheme);
        return paid.getOrDefault(scheme, 0);
    }

    public int sample(int maker, int sort, int year, int looked, int its) {
        isMaker(maker);
        argument(in(sort, 0, 4) && in(year, 0, now) && in(looked, 1, 1000) && in(its, 0, looked));
        if (samples.size() == 60) {
            return NONE;
        }
        samples.add(new int[] {maker, sort, year, looked, its});
        return samples.size();
    }

    private int all(int sort, int year) {
        int sum = 0;
        for (int[] load : loads) {
            sum += load[1] == year ? out(load, sort) : 0;
        }
        return sum;
    }

    public int span(int maker, int sort, int year, int what) {
        isMaker(maker);
        sortAndYear(sort, year);
        argument(in(what, 0, 1));
        long n = 0;
        long h = 0;
        for (int[] s : samples) {
            if (s[0] == maker && s[1] == sort && s[2] == year) {
                n += s[3];
                h += s[4];
            }
        }
        if (n == 0) {
            return NONE;
        }
        long r = 1 + (long) Math.floor(Math.sqrt(4.0 * h));
        return (int) (all(sort, year) * (what == 0 ? Math.max(0, h - r) : h + r) / n);
    }

    public int shy(int maker, int sort, int year) {
        int from = span(maker, sort, year, 0);
        return Math.max(0, from - declared(maker, sort, year, now));
    }

    public int shyest(int year) {
        argument(in(year, 0, 40));
        int who = NONE;
        int most = 0;
        for (int m = 0; m < makers; m++) {
            for (int sort = 0; sort < 5; sort++) {
                if (shy(m, sort, year) > most) {
                    most = shy(m, sort, year);
                    who = 10 * m + sort;
                }
            }
        }
        return who;
    }

    public int worth(int maker, int year) {
        isMaker(maker);
        argument(in(year, 0, 40));
        int which = 0;
        for (int sort = 1; sort < 5; sort++) {
            which = width(maker, sort, year) > width(maker, which, year) ? sort : which;
        }
        return which;
    }

    private int width(int maker, int sort, int year) {
        int from = span(maker, sort, year, 0);
        return from == NONE ? all(sort, year) : span(maker, sort, year, 1) - from;
    }

    public int count(int what) {
        int forged = 0;
        for (int i = 0; i < notes.size(); i++) {
            forged += forged(i) ? 1 : 0;
        }
        int[] all = {now, laws.size(), makers, packets.size(), tellings.size(), schemes, loads.size(), notes.size(),
            forged, offers.size(), samples.size(), tape.length(), joins.size()};
        return in(what, 0, 12) ? all[what] : NONE;
    }
}
