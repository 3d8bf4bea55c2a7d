import java.util.NoSuchElementException;

/** Who pays for the packet: the numbered promises stand in the document. */
public final class PacketLaw {
    public static final int NONE = -1;
    public static final int VOID = -2000000000;

    private static final int SORTS = 5;
    private static final int LAST_YEAR = 40;
    private static final int YEARS = 41;
    private static final int TOWNS = 6;
    private static final int MOST_BYTES = 400;
    private static final int BYTES_A_FEED = 20;
    private static final int MOST_LAWS = 10;
    private static final int MOST_MAKERS = 10;
    private static final int MOST_PACKETS = 20;
    private static final int MOST_MAKES = 5;
    private static final int MOST_TOLD = 200;
    private static final int MOST_SCHEMES = 4;
    private static final int MOST_JOINS = 60;
    private static final int MOST_LOADS = 60;
    private static final int MOST_NOTES = 100;
    private static final int MOST_OFFERS = 12;
    private static final int MOST_SAMPLES = 60;
    private static final int CHOSEN_PACKETS = 5;

    // The words of a law's text are numbered as they stand in Reader.WORDS.
    private static final int WORD = 200;
    private static final int WORD_YEAR = WORD + 5;
    private static final int WORD_LAYERS = WORD + 9;
    private static final int FEE = WORD + 10;
    private static final int TARGET = WORD + 11;
    private static final int OFF = WORD + 12;
    private static final int PER_TOWN = WORD + 13;
    private static final int BAN = WORD + 14;
    private static final int LEAST = WORD + 15;
    private static final int TRIPS = WORD + 16;
    private static final int ORPHANS = WORD + 17;
    private static final int WORD_MAKERS = WORD + 18;
    private static final int WORD_SCHEMES = WORD + 19;
    private static final int WORD_IF = WORD + 20;
    private static final int WORD_OR = WORD + 21;
    private static final int WORD_AND = WORD + 22;
    private static final int WORD_NOT = WORD + 23;
    private static final int WORD_MIN = WORD + 24;
    private static final int WORD_MAX = WORD + 25;
    private static final int NUMBER = 300;
    private static final int END = 301;
    private static final int STRANGE = 302;

    // A law's steps: below FACT a step is a number to be laid on the stack.
    private static final int FACT = 10000;
    private static final int ADD = 10010;
    private static final int TAKE = 10011;
    private static final int TIMES = 10012;
    private static final int BY = 10013;
    private static final int LESSER = 10014;
    private static final int GREATER = 10015;
    private static final int BELOW = 10016;
    private static final int ABOVE = 10017;
    private static final int EQUAL = 10018;
    private static final int BOTH = 10019;
    private static final int EITHER = 10020;
    private static final int NOT = 10021;

    private int now;
    private int makers;
    private final Laws laws;
    private final Reader reader;
    private final Packets packets;
    private final Declared told;
    private final Schemes schemes;
    private final Known view;
    private final Fee rates;
    private final Choice choice;
    private final Loads loads;
    private final Offers offers;
    private final Samples samples;
    private final long[] billed;
    private final int[] nobodys;

    public PacketLaw() {
        now = 0;
        makers = 0;
        laws = new Laws();
        reader = new Reader(laws);
        packets = new Packets();
        told = new Declared();
        schemes = new Schemes();
        view = new Known();
        rates = new Fee();
        choice = new Choice();
        loads = new Loads();
        offers = new Offers();
        samples = new Samples();
        billed = new long[MOST_MAKERS * YEARS];
        nobodys = new int[SORTS * YEARS];
    }

    public int years(int years) throws IllegalArgumentException, IllegalStateException {
        needYear(years);
        if (now + years > LAST_YEAR) {
            throw new IllegalStateException();
        }
        now += years;
        return now;
    }

    public int feed(int a, int b, int c, int d, int e) {
        if (reader.length + BYTES_A_FEED > MOST_BYTES) {
            return NONE;
        }
        reader.put(a);
        reader.put(b);
        reader.put(c);
        reader.put(d);
        reader.put(e);
        return reader.length;
    }

    public int law(int year, int n) throws IllegalArgumentException {
        needYear(year);
        needBytes(n);
        if (laws.count >= MOST_LAWS) {
            reader.forget();
            return NONE;
        }
        int kind = reader.readText(n);
        if (kind != 0) {
            return kind - 10;
        }
        return laws.keep(year);
    }

    public int fault() {
        return reader.faultPlace;
    }

    public int tells(int year, int sort, int what) throws IllegalArgumentException {
        needYear(year);
        needSort(sort);
        needRange(what, 0, 5);
        switch (what) {
            case 0: return laws.told(TARGET, sort, year, 0);
            case 1: return laws.told(OFF, sort, year, 100);
            case 2: return laws.told(PER_TOWN, sort, year, 0);
            case 3: return laws.told(LEAST, NONE, year, 0);
            case 4: return laws.told(TRIPS, NONE, year, 1);
            default: return laws.told(ORPHANS, NONE, year, 0);
        }
    }

    public int why(int year, int sort) throws IllegalArgumentException {
        needYear(year);
        needSort(sort);
        int clause = laws.lastClause(FEE, sort, year);
        if (clause < 0) {
            return NONE;
        }
        return 100 * (clause / Laws.CLAUSES) + clause % Laws.CLAUSES;
    }

    public int maker() throws IllegalStateException {
        if (makers >= MOST_MAKERS) {
            throw new IllegalStateException();
        }
        makers++;
        return makers - 1;
    }

    public int packet(int maker) throws NoSuchElementException {
        needMaker(maker);
        return packets.add(maker);
    }

    public int make(int packet, int paper, int glass, int tin, int film, int mixed, int cost) throws NoSuchElementException, IllegalArgumentException {
        needPacket(packet);
        needGrams(paper);
        needGrams(glass);
        needGrams(tin);
        needGrams(film);
        needGrams(mixed);
        needRange(cost, 0, 1000);
        int id = packets.addMake(packet, cost);
        if (id < 0) {
            return NONE;
        }
        packets.setGrams(id, 0, paper);
        packets.setGrams(id, 1, glass);
        packets.setGrams(id, 2, tin);
        packets.setGrams(id, 3, film);
        packets.setGrams(id, 4, mixed);
        return id % MOST_MAKES;
    }

    public int made(int packet, int make) throws NoSuchElementException, IllegalArgumentException {
        needPacket(packet);
        needMake(packet, make);
        int was = packets.madeAs[packet];
        packets.madeAs[packet] = make;
        return was;
    }

    public int sold(int packet, int year, int sold, int abroad, int trips) throws NoSuchElementException, IllegalArgumentException {
        needPacket(packet);
        needYear(year);
        needRange(sold, 0, 1000);
        needRange(abroad, 0, sold);
        needRange(trips, 1, 50);
        int at = packet * YEARS + year;
        int was = packets.sold[at];
        packets.sold[at] = sold;
        packets.abroad[at] = abroad;
        packets.trips[at] = trips;
        return was;
    }

    public int kilos(int packet, int sort, int year) throws NoSuchElementException, IllegalArgumentException {
        needPacket(packet);
        needSort(sort);
        needYear(year);
        return packetKilos(packets.makeOf(packet), sort, year);
    }

    public int truly(int maker, int sort, int year) throws NoSuchElementException, IllegalArgumentException {
        needMaker(maker);
        needSort(sort);
        needYear(year);
        int sum = 0;
        for (int p = 0; p < packets.count; p++) {
            if (packets.owner[p] == maker) {
                sum += packetKilos(packets.makeOf(p), sort, year);
            }
        }
        return sum;
    }

    public int declare(int maker, int sort, int year, int kilos) throws NoSuchElementException, IllegalArgumentException {
        needMaker(maker);
        needSort(sort);
        needRange(year, 0, now);
        needRange(kilos, 0, 10000000);
        return told.add(maker * SORTS + sort, year, kilos, now);
    }

    public int declared(int maker, int sort, int year, int known) throws NoSuchElementException, IllegalArgumentException {
        needMaker(maker);
        needSort(sort);
        needYear(year);
        look(year, known);
        return view.kilosOf(maker, sort);
    }

    public boolean small(int maker, int year, int known) throws NoSuchElementException, IllegalArgumentException {
        needMaker(maker);
        needYear(year);
        look(year, known);
        return view.isSmall[maker];
    }

    public long fee(int maker, int year, int known) throws NoSuchElementException, IllegalArgumentException {
        needMaker(maker);
        needYear(year);
        return feeOf(maker, year, known);
    }

    public long bill(int maker, int year) throws NoSuchElementException, IllegalArgumentException {
        needMaker(maker);
        needYear(year);
        int at = maker * YEARS + year;
        long more = feeOf(maker, year, now) - billed[at];
        billed[at] += more;
        return more;
    }

    public long tried(int maker, int year, int n) throws NoSuchElementException, IllegalArgumentException {
        needMaker(maker);
        needYear(year);
        needBytes(n);
        int kind = reader.readText(n);
        if (kind != 0) {
            return kind - 10;
        }
        laws.keep(year);
        long coins = feeOf(maker, year, now);
        laws.dropLast();
        return coins;
    }

    public boolean banned(int packet, int make, int year) throws NoSuchElementException, IllegalArgumentException {
        needPacket(packet);
        needMake(packet, make);
        needYear(year);
        return isBanned(packet * MOST_MAKES + make, year);
    }

    public long cheapest(int maker, int year, int what) throws NoSuchElementException, IllegalArgumentException {
        needMaker(maker);
        needYear(year);
        needRange(what, -1, CHOSEN_PACKETS - 1);
        choose(maker, year);
        if (what < 0) {
            return choice.total;
        }
        return choice.total < 0 || what >= choice.count ? NONE : choice.best[what];
    }

    public int scheme() throws IllegalStateException {
        if (schemes.count >= MOST_SCHEMES) {
            throw new IllegalStateException();
        }
        schemes.count++;
        return schemes.count - 1;
    }

    public int join(int maker, int scheme, int year) throws NoSuchElementException, IndexOutOfBoundsException, IllegalArgumentException {
        needMaker(maker);
        needSchemeOrNone(scheme);
        needYear(year);
        return schemes.addJoin(maker, scheme, year);
    }

    public int in(int maker, int year) throws NoSuchElementException, IllegalArgumentException {
        needMaker(maker);
        needYear(year);
        return schemes.schemeOf(maker, year);
    }

    public long owes(int scheme, int sort, int year, int known, int what) throws IndexOutOfBoundsException, IllegalArgumentException {
        needScheme(scheme);
        needSort(sort);
        needYear(year);
        needRange(what, 0, 4);
        look(year, known);
        switch (what) {
            case 0: return view.weightOf(scheme, sort);
            case 1: return boundTo(scheme, sort, year);
            case 2: return evidence(scheme, sort, year, known);
            case 3: return shortBy(scheme, sort, year, known);
            default: return orphansOf(scheme, sort, year);
        }
    }

    public int orphans(int sort, int year, int kilos) throws IllegalArgumentException {
        needSort(sort);
        needYear(year);
        needRange(kilos, 0, 1000000);
        int at = sort * YEARS + year;
        int was = nobodys[at];
        nobodys[at] = kilos;
        return was;
    }

    public int load(int town, int kilos, int paper, int glass, int tin, int film, int loss) throws IllegalArgumentException {
        needRange(town, 0, TOWNS - 1);
        needRange(kilos, 1, 20000);
        needRange(paper, 0, 100);
        needRange(glass, 0, 100);
        needRange(tin, 0, 100);
        needRange(film, 0, 100);
        needRange(loss, 0, 50);
        int mixed = 100 - paper - glass - tin - film;
        needRange(mixed, 0, 100);
        int load = loads.add(town, now, mixed);
        if (load < 0) {
            return NONE;
        }
        loads.setOut(load, 0, kilos * paper / 100 * (100 - loss) / 100);
        loads.setOut(load, 1, kilos * glass / 100 * (100 - loss) / 100);
        loads.setOut(load, 2, kilos * tin / 100 * (100 - loss) / 100);
        loads.setOut(load, 3, kilos * film / 100 * (100 - loss) / 100);
        loads.setOut(load, 4, kilos * mixed / 100 * (100 - loss) / 100);
        return load;
    }

    public int out(int load, int what) throws IndexOutOfBoundsException, IllegalArgumentException {
        needLoad(load);
        needRange(what, 0, 6);
        if (what < SORTS) {
            return loads.outOf(load, what);
        }
        return what == 5 ? loads.grade[load] : loads.year[load];
    }

    public int note(int load, int sort, int kilos, int scheme) throws IndexOutOfBoundsException, IllegalArgumentException {
        needLoad(load);
        needScheme(scheme);
        needSort(sort);
        needRange(kilos, 1, 20000);
        return loads.addNote(load, sort, kilos, scheme, now);
    }

    public boolean forged(int note) throws IndexOutOfBoundsException {
        needIndex(note, loads.notes);
        return loads.noteForged[note];
    }

    public long pay(int town, int year, int scheme) throws IndexOutOfBoundsException, IllegalArgumentException {
        needSchemeOrNone(scheme);
        needRange(town, 0, TOWNS - 1);
        needYear(year);
        long coins = 0;
        for (int sort = 0; sort < SORTS; sort++) {
            coins += loads.payFor(town, year, sort, laws.told(PER_TOWN, sort, year, 0));
        }
        if (scheme == NONE) {
            return coins;
        }
        look(year, now);
        for (int s = 0; s < schemes.count; s++) {
            view.weights[s] = view.weightOfAll(s);
        }
        view.part(coins, schemes.count);
        return view.parts[scheme];
    }

    public int offer(int sort, int kilos, int price) throws IllegalArgumentException {
        needSort(sort);
        needRange(kilos, 1, 100000);
        needRange(price, 0, 100000);
        return offers.add(sort, kilos, price);
    }

    public int buying(int scheme, int sort, int year, int what) throws IndexOutOfBoundsException, IllegalArgumentException {
        needScheme(scheme);
        needSort(sort);
        needYear(year);
        needRange(what, 0, 1);
        int set = setToBuy(scheme, sort, year);
        if (set < 0) {
            return NONE;
        }
        return what == 0 ? offers.priceOf(set) : set;
    }

    public int buy(int scheme, int sort, int year) throws IndexOutOfBoundsException, IllegalArgumentException {
        needScheme(scheme);
        needSort(sort);
        needYear(year);
        int set = setToBuy(scheme, sort, year);
        if (set < 0) {
            return NONE;
        }
        int price = offers.priceOf(set);
        offers.sell(set, scheme, year, now);
        schemes.paid[scheme] += price;
        return price;
    }

    public int paid(int scheme) throws IndexOutOfBoundsException {
        needScheme(scheme);
        return schemes.paid[scheme];
    }

    public int sample(int maker, int sort, int year, int looked, int its) throws NoSuchElementException, IllegalArgumentException {
        needMaker(maker);
        needSort(sort);
        needRange(year, 0, now);
        needRange(looked, 1, 1000);
        needRange(its, 0, looked);
        return samples.add(maker * SORTS + sort, year, looked, its);
    }

    public int span(int maker, int sort, int year, int what) throws NoSuchElementException, IllegalArgumentException {
        needMaker(maker);
        needSort(sort);
        needYear(year);
        needRange(what, 0, 1);
        int all = loads.allOut(sort, year);
        return what == 0 ? samples.spanFrom(maker * SORTS + sort, year, all) : samples.spanTo(maker * SORTS + sort, year, all);
    }

    public int shy(int maker, int sort, int year) throws NoSuchElementException, IllegalArgumentException {
        needMaker(maker);
        needSort(sort);
        needYear(year);
        look(year, now);
        return shyBy(maker, sort, year);
    }

    public int shyest(int year) throws IllegalArgumentException {
        needYear(year);
        look(year, now);
        int most = 0;
        int who = NONE;
        for (int m = 0; m < makers; m++) {
            for (int sort = 0; sort < SORTS; sort++) {
                int by = shyBy(m, sort, year);
                if (by > most) {
                    most = by;
                    who = 10 * m + sort;
                }
            }
        }
        return who;
    }

    public int worth(int maker, int year) throws NoSuchElementException, IllegalArgumentException {
        needMaker(maker);
        needYear(year);
        int widest = NONE;
        int which = 0;
        for (int sort = 0; sort < SORTS; sort++) {
            int wide = samples.width(maker * SORTS + sort, year, loads.allOut(sort, year));
            if (wide > widest) {
                widest = wide;
                which = sort;
            }
        }
        return which;
    }

    public int count(int what) {
        switch (what) {
            case 0: return now;
            case 1: return laws.count;
            case 2: return makers;
            case 3: return packets.count;
            case 4: return told.count;
            case 5: return schemes.count;
            case 6: return loads.count;
            case 7: return loads.notes;
            case 8: return loads.forgedNotes;
            case 9: return offers.left();
            case 10: return samples.count;
            case 11: return reader.length;
            case 12: return schemes.joins;
            default: return NONE;
        }
    }

    private static void needRange(int value, int least, int most) {
        if (value < least || value > most) {
            throw new IllegalArgumentException();
        }
    }

    private static void needYear(int year) {
        needRange(year, 0, LAST_YEAR);
    }

    private static void needSort(int sort) {
        needRange(sort, 0, SORTS - 1);
    }

    private static void needGrams(int grams) {
        needRange(grams, 0, 200);
    }

    private static void needIndex(int index, int count) {
        if (index < 0 || index >= count) {
            throw new IndexOutOfBoundsException();
        }
    }

    private void needBytes(int n) {
        needRange(n, 0, reader.length);
    }

    private void needMaker(int maker) {
        if (maker < 0 || maker >= makers) {
            throw new NoSuchElementException();
        }
    }

    private void needPacket(int packet) {
        if (packet < 0 || packet >= packets.count) {
            throw new NoSuchElementException();
        }
    }

    private void needMake(int packet, int make) {
        needRange(make, 0, packets.makes[packet] - 1);
    }

    private void needScheme(int scheme) {
        needIndex(scheme, schemes.count);
    }

    private void needSchemeOrNone(int scheme) {
        if (scheme != NONE) {
            needScheme(scheme);
        }
    }

    private void needLoad(int load) {
        needIndex(load, loads.count);
    }

    /** KILOS of one make of a packet; 0 without a make. */
    private int packetKilos(int make, int sort, int year) {
        if (make < 0) {
            return 0;
        }
        int off = laws.told(OFF, sort, year, 100);
        int most = laws.told(TRIPS, NONE, year, 1);
        return packets.kilosBy(make, sort, year, off, most);
    }

    /** Lays out who declared what and who is small and where in, in a year as known. */
    private void look(int year, int known) {
        int least = laws.told(LEAST, NONE, year, 0);
        view.clear(makers);
        for (int i = 0; i < told.count; i++) {
            if (told.year[i] == year && told.toldIn[i] <= known) {
                view.kilos[told.whose[i]] = told.kilos[i];
            }
        }
        for (int m = 0; m < makers; m++) {
            view.isSmall[m] = view.allOf(m) < least;
            view.schemeIn[m] = schemes.schemeOf(m, year);
        }
    }

    private long feeOf(int maker, int year, int known) {
        look(year, known);
        lawfulRates(maker, year);
        rates.layers = 0;
        for (int sort = 0; sort < SORTS; sort++) {
            rates.own[sort] = view.kilosOf(maker, sort);
            rates.grams[sort] = 0;
        }
        for (int p = 0; p < packets.count; p++) {
            if (packets.owner[p] == maker) {
                addAsMade(p);
            }
        }
        return rates.total(laws);
    }

    private void lawfulRates(int maker, int year) {
        rates.year = year;
        rates.least = laws.told(LEAST, NONE, year, 0);
        for (int sort = 0; sort < SORTS; sort++) {
            rates.clause[sort] = laws.lastClause(FEE, sort, year);
            rates.others[sort] = view.allDeclared(sort) - view.kilosOf(maker, sort);
        }
    }

    private void addAsMade(int packet) {
        int make = packets.makeOf(packet);
        if (make < 0) {
            return;
        }
        for (int sort = 0; sort < SORTS; sort++) {
            rates.grams[sort] += packets.gramsOf(make, sort);
        }
        rates.layers = Math.max(rates.layers, packets.layersOf(make));
    }

    private boolean isBanned(int make, int year) {
        int layers = packets.layersOf(make);
        for (int sort = 0; sort < SORTS; sort++) {
            int grams = packets.gramsOf(make, sort);
            if (grams > 0 && laws.bans(sort, year, grams, layers)) {
                return true;
            }
        }
        return false;
    }

    private void choose(int maker, int year) {
        look(year, now);
        lawfulRates(maker, year);
        choice.clear();
        for (int p = 0; p < packets.count; p++) {
            if (packets.owner[p] == maker && choice.count < CHOSEN_PACKETS) {
                addToChoice(p, year);
            } else if (packets.owner[p] == maker && packets.makeOf(p) >= 0) {
                addToRest(packets.makeOf(p), year);
            }
        }
        chooseFrom(0, 0);
    }

    private void addToChoice(int packet, int year) {
        int cell = choice.addPacket(packets.makes[packet]);
        for (int i = 0; i < packets.makes[packet]; i++) {
            int make = packet * MOST_MAKES + i;
            choice.isOut[cell + i] = isBanned(make, year);
            choice.coins[cell + i] = packets.coinsOf(make, year);
            choice.layers[cell + i] = packets.layersOf(make);
            for (int sort = 0; sort < SORTS; sort++) {
                choice.kilos[(cell + i) * SORTS + sort] = packetKilos(make, sort, year);
                choice.grams[(cell + i) * SORTS + sort] = packets.gramsOf(make, sort);
            }
        }
    }

    /** The packets behind the chosen ones stand in all rows, as they are made. */
    private void addToRest(int make, int year) {
        for (int sort = 0; sort < SORTS; sort++) {
            choice.sumKilos[sort] += packetKilos(make, sort, year);
            choice.sumGrams[sort] += packets.gramsOf(make, sort);
        }
        choice.sumLayers[0] = Math.max(choice.sumLayers[0], packets.layersOf(make));
    }

    /** Tries all makes of a chosen packet and of those behind it, the first ones first. */
    private void chooseFrom(int packet, long coins) {
        // A fee is never below 0: a row that costs as much already can't be less.
        if (choice.total >= 0 && coins >= choice.total) {
            return;
        }
        if (packet >= choice.count) {
            choice.copyInto(rates);
            choice.offerTotal(coins + rates.total(laws));
            return;
        }
        for (int make = 0; make < choice.makes[packet]; make++) {
            int cell = packet * MOST_MAKES + make;
            if (!choice.isOut[cell]) {
                choice.putInRow(packet, make);
                chooseFrom(packet + 1, coins + choice.coins[cell]);
            }
        }
    }

    /** What a scheme has of the orphans, by what look() has laid out. */
    private long orphansOf(int scheme, int sort, int year) {
        int kilos = nobodys[sort * YEARS + year];
        if (laws.told(ORPHANS, NONE, year, 0) == 1) {
            for (int s = 0; s < schemes.count; s++) {
                view.weights[s] = view.weightOf(s, sort);
            }
            view.part(kilos, schemes.count);
            return view.parts[scheme];
        }
        for (int m = 0; m < makers; m++) {
            view.weights[m] = view.isSmall[m] ? 0 : view.kilosOf(m, sort);
        }
        view.part(kilos, makers);
        return view.partsIn(scheme);
    }

    private long boundTo(int scheme, int sort, int year) {
        long target = laws.told(TARGET, sort, year, 0);
        return view.weightOf(scheme, sort) * target / 100 + orphansOf(scheme, sort, year);
    }

    private long evidence(int scheme, int sort, int year, int known) {
        return (long) loads.noted(scheme, sort, year, known) + offers.bought(scheme, sort, year, known);
    }

    private long shortBy(int scheme, int sort, int year, int known) {
        return Math.max(0L, boundTo(scheme, sort, year) - evidence(scheme, sort, year, known));
    }

    /** The set of offers as bits; 0 if the scheme is not short, NONE if there is no such set. */
    private int setToBuy(int scheme, int sort, int year) {
        look(year, now);
        long kilos = shortBy(scheme, sort, year, now);
        return kilos <= 0 ? 0 : offers.bestSet(sort, kilos);
    }

    private int shyBy(int maker, int sort, int year) {
        int from = samples.spanFrom(maker * SORTS + sort, year, loads.allOut(sort, year));
        return Math.max(0, from - view.kilosOf(maker, sort));
    }

    /** The tape, and the reading of its bytes as a law. */
    private static final class Reader {
        private static final String WORDS = "paper glass tin film mixed year kilos share grams layers fee target off towns ban least trips orphans makers schemes if or and not min max ";
        private static final String SIGNS = ";=+-*/(),[]<>";
        private static final int MOST_OPEN = 8;
        private static final int TOO_MUCH = 10000;

        int length;
        int faultPlace;
        private int faultKind;
        private int tokens;
        private int at;
        private int token;
        private int value;
        private final int[] bytes;
        private final int[] kinds;
        private final int[] starts;
        private final int[] values;
        private final Laws laws;

        Reader(Laws laws) {
            this.laws = laws;
            bytes = new int[MOST_BYTES];
            kinds = new int[MOST_BYTES + 1];
            starts = new int[MOST_BYTES + 1];
            values = new int[MOST_BYTES + 1];
            faultPlace = NONE;
        }

        void put(int number) {
            for (int shift = 24; shift >= 0; shift -= 8) {
                if (length < bytes.length) {
                    bytes[length] = (number >>> shift) & 255;
                    length++;
                }
            }
        }

        /** Empties the tape; no fault is known any more. */
        void forget() {
            length = 0;
            faultKind = 0;
            faultPlace = NONE;
        }

        /** Reads the first n bytes into the laws' open row: the kind of the fault, or 0. */
        int readText(int n) {
            forget();
            split(Math.min(n, bytes.length));
            laws.open();
            at = 0;
            token = kinds[0];
            value = values[0];
            for (int i = 0; i <= Laws.CLAUSES && token != END; i++) {
                if (!readClause()) {
                    return faultKind;
                }
            }
            return 0;
        }

        /** Splits the bytes into tokens; the last one is the end, at the text's length. */
        private void split(int size) {
            tokens = 0;
            int place = 0;
            while (place < size) {
                int from = place;
                int b = bytes[place];
                place++;
                if (isDigit(b)) {
                    while (place < size && isDigit(bytes[place])) {
                        place++;
                    }
                    addToken(NUMBER, from, numberOf(from, place));
                } else if (isLetter(b)) {
                    while (place < size && isLetter(bytes[place])) {
                        place++;
                    }
                    addToken(wordOf(from, place), from, 0);
                } else if (b != ' ') {
                    addToken(SIGNS.indexOf((char) b) >= 0 ? b : STRANGE, from, 0);
                }
            }
            addToken(END, size, 0);
        }

        private void addToken(int kind, int start, int itsValue) {
            if (tokens < kinds.length) {
                kinds[tokens] = kind;
                starts[tokens] = start;
                values[tokens] = itsValue;
                tokens++;
            }
        }

        private static boolean isDigit(int b) {
            return b >= '0' && b <= '9';
        }

        private static boolean isLetter(int b) {
            return b >= 'a' && b <= 'z';
        }

        private int numberOf(int from, int to) {
            int number = 0;
            for (int i = from; i < to; i++) {
                number = Math.min(TOO_MUCH, number * 10 + bytes[i] - '0');
            }
            return number;
        }

        private int wordOf(int from, int to) {
            int size = to - from;
            int word = WORD;
            int matched = 0;
            boolean same = true;
            for (int i = 0; i < WORDS.length(); i++) {
                if (WORDS.charAt(i) == ' ') {
                    if (same && matched == size) {
                        return word;
                    }
                    word++;
                    matched = 0;
                    same = true;
                } else {
                    same = same && matched < size && bytes[from + matched] == WORDS.charAt(i);
                    matched++;
                }
            }
            return STRANGE;
        }

        private boolean fail(int kind) {
            faultKind = kind;
            faultPlace = starts[at];
            return false;
        }

        /** Goes on to the next token; behind the end stands the end. */
        private void step() {
            if (at < tokens - 1) {
                at++;
            }
            token = kinds[at];
            value = values[at];
        }

        private boolean take(int wanted) {
            if (token != wanted) {
                return fail(1);
            }
            step();
            return true;
        }

        /** Takes a bracket or a not, unless so many are open already. */
        private boolean takeOpen(int wanted, int open) {
            if (token != wanted) {
                return fail(1);
            }
            if (open >= MOST_OPEN) {
                return fail(3);
            }
            step();
            return true;
        }

        private boolean readClause() {
            int kind = token;
            if (kind < FEE || kind > ORPHANS) {
                return fail(1);
            }
            if (laws.isFull()) {
                return fail(3);
            }
            step();
            int sort = NONE;
            if (kind <= BAN) {
                if (token < WORD || token >= WORD + SORTS) {
                    return fail(1);
                }
                sort = token - WORD;
                step();
            }
            laws.addClause(kind, sort);
            boolean fits;
            switch (kind) {
                case FEE:
                    fits = take('=') && readSum(0);
                    break;
                case BAN:
                    fits = token != WORD_IF || (take(WORD_IF) && readEither(0));
                    break;
                case ORPHANS:
                    fits = readWhose();
                    break;
                case TRIPS:
                    fits = readNumber(1, 50);
                    break;
                case TARGET:
                case OFF:
                    fits = readNumber(0, 100);
                    break;
                default:
                    fits = readNumber(0, 9999);
                    break;
            }
            return fits && take(';');
        }

        private boolean readWhose() {
            if (token != WORD_MAKERS && token != WORD_SCHEMES) {
                return fail(1);
            }
            laws.setNumber(token == WORD_SCHEMES ? 1 : 0);
            step();
            return true;
        }

        private boolean readNumber(int least, int most) {
            if (token != NUMBER) {
                return fail(1);
            }
            if (value < least || value > most) {
                return fail(2);
            }
            laws.setNumber(value);
            step();
            return true;
        }

        private boolean readSum(int open) {
            if (!readProduct(open)) {
                return false;
            }
            for (int i = 0; i < MOST_BYTES && (token == '+' || token == '-'); i++) {
                int sign = token == '+' ? ADD : TAKE;
                step();
                if (!readProduct(open)) {
                    return false;
                }
                laws.write(sign);
            }
            return true;
        }

        private boolean readProduct(int open) {
            if (!readUnit(open)) {
                return false;
            }
            for (int i = 0; i < MOST_BYTES && (token == '*' || token == '/'); i++) {
                int sign = token == '*' ? TIMES : BY;
                step();
                if (!readUnit(open)) {
                    return false;
                }
                laws.write(sign);
            }
            return true;
        }

        private boolean readUnit(int open) {
            if (token == NUMBER) {
                if (value > 9999) {
                    return fail(2);
                }
                laws.write(value);
                step();
                return true;
            }
            if (token >= WORD_YEAR && token <= WORD_LAYERS) {
                laws.write(FACT + token - WORD_YEAR);
                step();
                return true;
            }
            if (token == WORD_MIN || token == WORD_MAX) {
                int sign = token == WORD_MIN ? LESSER : GREATER;
                step();
                return readPair(open, sign);
            }
            return takeOpen('(', open) && readSum(open + 1) && take(')');
        }

        private boolean readPair(int open, int sign) {
            boolean fits = takeOpen('(', open) && readSum(open + 1) && take(',') && readSum(open + 1) && take(')');
            if (fits) {
                laws.write(sign);
            }
            return fits;
        }

        private boolean readEither(int open) {
            if (!readBoth(open)) {
                return false;
            }
            for (int i = 0; i < MOST_BYTES && token == WORD_OR; i++) {
                step();
                if (!readBoth(open)) {
                    return false;
                }
                laws.write(EITHER);
            }
            return true;
        }

        private boolean readBoth(int open) {
            if (!readTest(open)) {
                return false;
            }
            for (int i = 0; i < MOST_BYTES && token == WORD_AND; i++) {
                step();
                if (!readTest(open)) {
                    return false;
                }
                laws.write(BOTH);
            }
            return true;
        }

        private boolean readTest(int open) {
            if (token == WORD_NOT) {
                if (!takeOpen(WORD_NOT, open) || !readTest(open + 1)) {
                    return false;
                }
                laws.write(NOT);
                return true;
            }
            if (token == '[') {
                return takeOpen('[', open) && readEither(open + 1) && take(']');
            }
            if (!readSum(open)) {
                return false;
            }
            int sign = token == '<' ? BELOW : token == '>' ? ABOVE : EQUAL;
            if (token != '<' && token != '>' && token != '=') {
                return fail(1);
            }
            step();
            if (!readSum(open)) {
                return false;
            }
            laws.write(sign);
            return true;
        }
    }

    /** The laws' clauses in rows, their sums and conditions as steps for a stack. */
    private static final class Laws {
        private static final int CLAUSES = 16;
        private static final int ROWS = MOST_LAWS + 1;
        private static final int FACTS = 5;
        private static final int STACK = 64;

        int count;
        private int used;
        private int last;
        private final int[] from;
        private final int[] clauses;
        private final int[] kind;
        private final int[] sort;
        private final int[] number;
        private final int[] start;
        private final int[] end;
        private final int[] steps;
        private final int[] facts;
        private final int[] stack;

        Laws() {
            from = new int[ROWS];
            clauses = new int[ROWS];
            kind = new int[ROWS * CLAUSES];
            sort = new int[ROWS * CLAUSES];
            number = new int[ROWS * CLAUSES];
            start = new int[ROWS * CLAUSES];
            end = new int[ROWS * CLAUSES];
            steps = new int[ROWS * MOST_BYTES];
            facts = new int[FACTS];
            stack = new int[STACK];
        }

        /** Opens the row behind the last law for a text. */
        void open() {
            used = count * MOST_BYTES;
            if (count < ROWS) {
                clauses[count] = 0;
            }
        }

        boolean isFull() {
            return count >= ROWS || clauses[count] >= CLAUSES;
        }

        void addClause(int itsKind, int itsSort) {
            if (isFull()) {
                return;
            }
            last = count * CLAUSES + clauses[count];
            clauses[count]++;
            kind[last] = itsKind;
            sort[last] = itsSort;
            number[last] = 0;
            start[last] = used;
            end[last] = used;
        }

        void setNumber(int n) {
            number[last] = n;
        }

        void write(int step) {
            if (used < steps.length) {
                steps[used] = step;
                used++;
                end[last] = used;
            }
        }

        /** The open row is a law from a year on: its number. */
        int keep(int year) {
            if (count >= ROWS) {
                return NONE;
            }
            from[count] = year;
            count++;
            return count - 1;
        }

        void dropLast() {
            if (count > 0) {
                count--;
            }
        }

        int lastClause(int itsKind, int itsSort, int year) {
            for (int law = count - 1; law >= 0; law--) {
                if (from[law] > year) {
                    continue;
                }
                for (int i = clauses[law] - 1; i >= 0; i--) {
                    int clause = law * CLAUSES + i;
                    if (kind[clause] == itsKind && sort[clause] == itsSort) {
                        return clause;
                    }
                }
            }
            return NONE;
        }

        int told(int itsKind, int itsSort, int year, int without) {
            int clause = lastClause(itsKind, itsSort, year);
            return clause < 0 ? without : number[clause];
        }

        boolean bans(int itsSort, int year, int grams, int layers) {
            for (int law = 0; law < count; law++) {
                if (from[law] > year) {
                    continue;
                }
                for (int i = 0; i < clauses[law]; i++) {
                    int clause = law * CLAUSES + i;
                    if (kind[clause] == BAN && sort[clause] == itsSort
                            && (start[clause] == end[clause] || value(clause, year, 0, 0, grams, layers) != 0)) {
                        return true;
                    }
                }
            }
            return false;
        }

        /** Does a clause's steps on the stack; a condition that holds is 1. */
        int value(int clause, int year, int kilos, int share, int grams, int layers) {
            facts[0] = year;
            facts[1] = kilos;
            facts[2] = share;
            facts[3] = grams;
            facts[4] = layers;
            int top = 0;
            for (int i = start[clause]; i < end[clause]; i++) {
                int step = steps[i];
                if (step < ADD && top < STACK) {
                    stack[top] = step < FACT ? step : facts[Math.min(step - FACT, FACTS - 1)];
                    top++;
                } else if (step == NOT && top > 0) {
                    stack[top - 1] = 1 - stack[top - 1];
                } else if (step >= ADD && top > 1) {
                    top--;
                    stack[top - 1] = joined(step, stack[top - 1], stack[top]);
                }
            }
            return stack[0];
        }

        private static int joined(int step, int a, int b) {
            switch (step) {
                case ADD: return a + b;
                case TAKE: return a - b;
                case TIMES: return a * b;
                case BY: return b == 0 ? 0 : a / b;
                case LESSER: return a < b ? a : b;
                case GREATER: return a > b ? a : b;
                case BELOW: return a < b ? 1 : 0;
                case ABOVE: return a > b ? 1 : 0;
                case EQUAL: return a == b ? 1 : 0;
                case BOTH: return a & b;
                default: return a | b;
            }
        }
    }

    /** The packets, their makes (five rows a packet) and what was sold of them. */
    private static final class Packets {
        int count;
        final int[] owner;
        final int[] makes;
        final int[] madeAs;
        final int[] sold;
        final int[] abroad;
        final int[] trips;
        private final int[] grams;
        private final int[] cost;

        Packets() {
            owner = new int[MOST_PACKETS];
            makes = new int[MOST_PACKETS];
            madeAs = new int[MOST_PACKETS];
            sold = new int[MOST_PACKETS * YEARS];
            abroad = new int[MOST_PACKETS * YEARS];
            trips = new int[MOST_PACKETS * YEARS];
            for (int i = 0; i < trips.length; i++) {
                trips[i] = 1;
            }
            grams = new int[MOST_PACKETS * MOST_MAKES * SORTS];
            cost = new int[MOST_PACKETS * MOST_MAKES];
        }

        int add(int maker) {
            if (count >= MOST_PACKETS) {
                return NONE;
            }
            owner[count] = maker;
            count++;
            return count - 1;
        }

        /** The row of a new make; NONE if the packet has all its makes. */
        int addMake(int packet, int itsCost) {
            if (makes[packet] >= MOST_MAKES) {
                return NONE;
            }
            int make = packet * MOST_MAKES + makes[packet];
            makes[packet]++;
            cost[make] = itsCost;
            return make;
        }

        void setGrams(int make, int sort, int many) {
            grams[make * SORTS + sort] = many;
        }

        int gramsOf(int make, int sort) {
            return grams[make * SORTS + sort];
        }

        int layersOf(int make) {
            int layers = 0;
            for (int sort = 0; sort < SORTS; sort++) {
                if (gramsOf(make, sort) > 0) {
                    layers++;
                }
            }
            return layers;
        }

        /** The row of the make by which a packet is made; NONE without makes. */
        int makeOf(int packet) {
            return makes[packet] == 0 ? NONE : packet * MOST_MAKES + madeAs[packet];
        }

        int kilosBy(int make, int sort, int year, int off, int mostTrips) {
            int at = make / MOST_MAKES * YEARS + year;
            int counted = 100 * sold[at] - off * abroad[at];
            int by = Math.max(1, Math.min(trips[at], mostTrips));
            return gramsOf(make, sort) * counted / 100 / by;
        }

        int coinsOf(int make, int year) {
            return cost[make] * sold[make / MOST_MAKES * YEARS + year];
        }
    }

    /** What was declared, in the order in which it was told. */
    private static final class Declared {
        int count;
        final int[] whose;
        final int[] year;
        final int[] kilos;
        final int[] toldIn;

        Declared() {
            whose = new int[MOST_TOLD];
            year = new int[MOST_TOLD];
            kilos = new int[MOST_TOLD];
            toldIn = new int[MOST_TOLD];
        }

        int add(int makerAndSort, int itsYear, int many, int now) {
            if (count >= MOST_TOLD) {
                return NONE;
            }
            whose[count] = makerAndSort;
            year[count] = itsYear;
            kilos[count] = many;
            toldIn[count] = now;
            count++;
            return count;
        }
    }

    /** The schemes, what they paid for offers, and who joined them. */
    private static final class Schemes {
        int count;
        int joins;
        final int[] paid;
        private final int[] maker;
        private final int[] scheme;
        private final int[] from;

        Schemes() {
            paid = new int[MOST_SCHEMES];
            maker = new int[MOST_JOINS];
            scheme = new int[MOST_JOINS];
            from = new int[MOST_JOINS];
        }

        int addJoin(int who, int where, int year) {
            if (joins >= MOST_JOINS) {
                return NONE;
            }
            maker[joins] = who;
            scheme[joins] = where;
            from[joins] = year;
            joins++;
            return joins;
        }

        int schemeOf(int who, int year) {
            int latest = NONE;
            int where = NONE;
            for (int i = 0; i < joins; i++) {
                if (maker[i] == who && from[i] <= year && from[i] >= latest) {
                    latest = from[i];
                    where = scheme[i];
                }
            }
            return where;
        }
    }

    /** A year as known in another one: declared kilograms, who is small, and where in. */
    private static final class Known {
        final int[] kilos;
        final boolean[] isSmall;
        final int[] schemeIn;
        final long[] weights;
        final long[] parts;
        private final long[] rests;
        private int makers;

        Known() {
            kilos = new int[MOST_MAKERS * SORTS];
            isSmall = new boolean[MOST_MAKERS];
            schemeIn = new int[MOST_MAKERS];
            weights = new long[MOST_MAKERS];
            parts = new long[MOST_MAKERS];
            rests = new long[MOST_MAKERS];
        }

        void clear(int howManyMakers) {
            makers = Math.min(howManyMakers, MOST_MAKERS);
            for (int i = 0; i < kilos.length; i++) {
                kilos[i] = 0;
            }
        }

        int kilosOf(int maker, int sort) {
            return kilos[maker * SORTS + sort];
        }

        /** What a maker declared of all sorts together. */
        int allOf(int maker) {
            int sum = 0;
            for (int sort = 0; sort < SORTS; sort++) {
                sum += kilosOf(maker, sort);
            }
            return sum;
        }

        /** What all makers declared of a sort. */
        int allDeclared(int sort) {
            int sum = 0;
            for (int m = 0; m < makers; m++) {
                sum += kilosOf(m, sort);
            }
            return sum;
        }

        long weightOf(int scheme, int sort) {
            long sum = 0;
            for (int m = 0; m < makers; m++) {
                if (schemeIn[m] == scheme && !isSmall[m]) {
                    sum += kilosOf(m, sort);
                }
            }
            return sum;
        }

        long weightOfAll(int scheme) {
            long sum = 0;
            for (int sort = 0; sort < SORTS; sort++) {
                sum += weightOf(scheme, sort);
            }
            return sum;
        }

        long partsIn(int scheme) {
            long sum = 0;
            for (int m = 0; m < makers; m++) {
                if (schemeIn[m] == scheme) {
                    sum += parts[m];
                }
            }
            return sum;
        }

        /** Parts a whole by the first so many weights. */
        void part(long whole, int count) {
            long all = 0;
            for (int i = 0; i < count; i++) {
                all += weights[i];
                parts[i] = 0;
            }
            if (all <= 0) {
                return;
            }
            long over = whole;
            for (int i = 0; i < count; i++) {
                parts[i] = whole * weights[i] / all;
                rests[i] = whole * weights[i] % all;
                over -= parts[i];
            }
            for (int i = 0; i < count && i < over; i++) {
                giveOne(count);
            }
        }

        private void giveOne(int count) {
            int who = 0;
            for (int i = 1; i < count; i++) {
                if (rests[i] > rests[who]) {
                    who = i;
                }
            }
            parts[who]++;
            rests[who] = NONE;
        }
    }

    /** What a fee is reckoned from: the clauses in force, and one maker's kilograms and grams. */
    private static final class Fee {
        private static final int WITHOUT = 100;
        private static final int HIGHEST = 100000;

        int year;
        int least;
        int layers;
        final int[] clause;
        final int[] own;
        final int[] others;
        final int[] grams;

        Fee() {
            clause = new int[SORTS];
            own = new int[SORTS];
            others = new int[SORTS];
            grams = new int[SORTS];
        }

        long total(Laws laws) {
            long kilos = 0;
            for (int sort = 0; sort < SORTS; sort++) {
                kilos += own[sort];
            }
            if (kilos < least) {
                return 0;
            }
            long coins = 0;
            for (int sort = 0; sort < SORTS; sort++) {
                coins += (long) own[sort] * rate(laws, sort) / 1000;
            }
            return coins;
        }

        private int rate(Laws laws, int sort) {
            if (own[sort] == 0) {
                return 0;
            }
            if (clause[sort] < 0) {
                return WITHOUT;
            }
            long all = (long) own[sort] + others[sort];
            int share = all > 0 ? (int) (own[sort] * 100L / all) : 0;
            int value = laws.value(clause[sort], year, own[sort], share, grams[sort], layers);
            return Math.max(0, Math.min(HIGHEST, value));
        }
    }

    /** The makes that a maker's first five packets could have, and the best row of them so far. */
    private static final class Choice {
        private static final int CELLS = CHOSEN_PACKETS * MOST_MAKES;

        int count;
        long total;
        final int[] makes;
        final int[] best;
        final boolean[] isOut;
        final int[] coins;
        final int[] layers;
        final int[] kilos;
        final int[] grams;
        // What so many packets of the row come to, from none to all: each sum is made from the one before.
        final int[] sumKilos;
        final int[] sumGrams;
        final int[] sumLayers;
        private final int[] row;

        Choice() {
            makes = new int[CHOSEN_PACKETS];
            best = new int[CHOSEN_PACKETS];
            row = new int[CHOSEN_PACKETS];
            isOut = new boolean[CELLS];
            coins = new int[CELLS];
            layers = new int[CELLS];
            kilos = new int[CELLS * SORTS];
            grams = new int[CELLS * SORTS];
            sumKilos = new int[(CHOSEN_PACKETS + 1) * SORTS];
            sumGrams = new int[(CHOSEN_PACKETS + 1) * SORTS];
            sumLayers = new int[CHOSEN_PACKETS + 1];
        }

        void clear() {
            count = 0;
            total = NONE;
            sumLayers[0] = 0;
            for (int sort = 0; sort < SORTS; sort++) {
                sumKilos[sort] = 0;
                sumGrams[sort] = 0;
            }
        }

        /** One more packet, of so many makes: the cell of its first one. */
        int addPacket(int itsMakes) {
            makes[count] = itsMakes;
            count++;
            return (count - 1) * MOST_MAKES;
        }

        void putInRow(int packet, int make) {
            int cell = packet * MOST_MAKES + make;
            row[packet] = make;
            sumLayers[packet + 1] = Math.max(sumLayers[packet], layers[cell]);
            for (int sort = 0; sort < SORTS; sort++) {
                int at = packet * SORTS + sort;
                sumKilos[at + SORTS] = sumKilos[at] + kilos[cell * SORTS + sort];
                sumGrams[at + SORTS] = sumGrams[at] + grams[cell * SORTS + sort];
            }
        }

        void copyInto(Fee fee) {
            fee.layers = sumLayers[count];
            for (int sort = 0; sort < SORTS; sort++) {
                fee.own[sort] = sumKilos[count * SORTS + sort];
                fee.grams[sort] = sumGrams[count * SORTS + sort];
            }
        }

        /** The row comes to so much: it is the best if that is less than before. */
        void offerTotal(long itsTotal) {
            if (total >= 0 && itsTotal >= total) {
                return;
            }
            total = itsTotal;
            for (int p = 0; p < count; p++) {
                best[p] = row[p];
            }
        }
    }

    /** The loads of the towns, and the notes about them. */
    private static final class Loads {
        int count;
        int notes;
        int forgedNotes;
        final int[] year;
        final int[] grade;
        final boolean[] noteForged;
        private final int[] town;
        private final int[] outs;
        private final int[] noteLoad;
        private final int[] noteSort;
        private final int[] noteKilos;
        private final int[] noteScheme;
        private final int[] noteToldIn;

        Loads() {
            year = new int[MOST_LOADS];
            grade = new int[MOST_LOADS];
            town = new int[MOST_LOADS];
            outs = new int[MOST_LOADS * SORTS];
            noteForged = new boolean[MOST_NOTES];
            noteLoad = new int[MOST_NOTES];
            noteSort = new int[MOST_NOTES];
            noteKilos = new int[MOST_NOTES];
            noteScheme = new int[MOST_NOTES];
            noteToldIn = new int[MOST_NOTES];
        }

        int add(int itsTown, int now, int mixed) {
            if (count >= MOST_LOADS) {
                return NONE;
            }
            town[count] = itsTown;
            year[count] = now;
            grade[count] = mixed <= 5 ? 0 : mixed <= 15 ? 1 : mixed <= 40 ? 2 : 3;
            count++;
            return count - 1;
        }

        void setOut(int load, int sort, int kilos) {
            outs[load * SORTS + sort] = kilos;
        }

        int outOf(int load, int sort) {
            return outs[load * SORTS + sort];
        }

        int allOut(int sort, int itsYear) {
            int sum = 0;
            for (int i = 0; i < count; i++) {
                if (year[i] == itsYear) {
                    sum += outOf(i, sort);
                }
            }
            return sum;
        }

        long payFor(int itsTown, int itsYear, int sort, int perTonne) {
            long coins = 0;
            for (int i = 0; i < count; i++) {
                if (town[i] == itsTown && year[i] == itsYear) {
                    coins += (long) outOf(i, sort) * perTonne / 1000 / (1 + Math.max(0, grade[i]));
                }
            }
            return coins;
        }

        int addNote(int load, int sort, int kilos, int scheme, int now) {
            if (notes >= MOST_NOTES) {
                return NONE;
            }
            noteForged[notes] = notedOf(load, sort) + kilos > outOf(load, sort);
            if (noteForged[notes]) {
                forgedNotes++;
            }
            noteLoad[notes] = load;
            noteSort[notes] = sort;
            noteKilos[notes] = kilos;
            noteScheme[notes] = scheme;
            noteToldIn[notes] = now;
            notes++;
            return notes - 1;
        }

        private int notedOf(int load, int sort) {
            int sum = 0;
            for (int i = 0; i < notes; i++) {
                if (noteLoad[i] == load && noteSort[i] == sort && !noteForged[i]) {
                    sum += noteKilos[i];
                }
            }
            return sum;
        }

        /** The kilograms of a scheme's notes for a year that aren't forged, as known. */
        int noted(int scheme, int sort, int itsYear, int known) {
            int sum = 0;
            for (int i = 0; i < notes; i++) {
                if (noteScheme[i] == scheme && noteSort[i] == sort && !noteForged[i]
                        && year[noteLoad[i]] == itsYear && noteToldIn[i] <= known) {
                    sum += noteKilos[i];
                }
            }
            return sum;
        }
    }

    /** The offers, and for whom and what year they were bought, and when. */
    private static final class Offers {
        private int count;
        private int best;
        private int bestPrice;
        private int bestKilos;
        private final int[] sort;
        private final int[] kilos;
        private final int[] price;
        private final int[] buyer;
        private final int[] forYear;
        private final int[] boughtIn;

        Offers() {
            sort = new int[MOST_OFFERS];
            kilos = new int[MOST_OFFERS];
            price = new int[MOST_OFFERS];
            buyer = new int[MOST_OFFERS];
            forYear = new int[MOST_OFFERS];
            boughtIn = new int[MOST_OFFERS];
        }

        int add(int itsSort, int itsKilos, int itsPrice) {
            if (count >= MOST_OFFERS) {
                return NONE;
            }
            sort[count] = itsSort;
            kilos[count] = itsKilos;
            price[count] = itsPrice;
            buyer[count] = NONE;
            count++;
            return count - 1;
        }

        int left() {
            int many = 0;
            for (int i = 0; i < count; i++) {
                if (buyer[i] == NONE) {
                    many++;
                }
            }
            return many;
        }

        int priceOf(int set) {
            int sum = 0;
            for (int i = 0; i < count; i++) {
                if ((set >> i & 1) == 1) {
                    sum += price[i];
                }
            }
            return sum;
        }

        void sell(int set, int scheme, int year, int now) {
            for (int i = 0; i < count; i++) {
                if ((set >> i & 1) == 1) {
                    buyer[i] = scheme;
                    forYear[i] = year;
                    boughtIn[i] = now;
                }
            }
        }

        int bought(int scheme, int itsSort, int year, int known) {
            int sum = 0;
            for (int i = 0; i < count; i++) {
                if (buyer[i] == scheme && sort[i] == itsSort && forYear[i] == year && boughtIn[i] <= known) {
                    sum += kilos[i];
                }
            }
            return sum;
        }

        /** Of all sets that have enough the least price's; NONE if there is none. */
        int bestSet(int itsSort, long enough) {
            best = NONE;
            bestPrice = 0;
            bestKilos = 0;
            pick(0, 0, 0, 0, enough, itsSort);
            return best;
        }

        /**
         * Goes on with a set from an offer on: with that offer first, so that of alike sets the first is found first.
         * A set that has enough needs no more offers: they would make it heavier, and no cheaper.
         */
        private void pick(int offer, int set, int itsPrice, int itsKilos, long enough, int itsSort) {
            if (best >= 0 && itsPrice > bestPrice) {
                return;
            }
            if (itsKilos >= enough) {
                if (best < 0 || itsPrice < bestPrice || itsKilos < bestKilos) {
                    best = set;
                    bestPrice = itsPrice;
                    bestKilos = itsKilos;
                }
                return;
            }
            if (offer >= count) {
                return;
            }
            if (buyer[offer] == NONE && sort[offer] == itsSort) {
                pick(offer + 1, set | 1 << offer, itsPrice + price[offer], itsKilos + kilos[offer], enough, itsSort);
            }
            pick(offer + 1, set, itsPrice, itsKilos, enough, itsSort);
        }
    }

    /** The samples of makers' kilograms, and what span they bear out. */
    private static final class Samples {
        private static final int HIGHEST_ROOT = 500;

        int count;
        private int looked;
        private int found;
        private final int[] whose;
        private final int[] year;
        private final int[] lookedAt;
        private final int[] its;

        Samples() {
            whose = new int[MOST_SAMPLES];
            year = new int[MOST_SAMPLES];
            lookedAt = new int[MOST_SAMPLES];
            its = new int[MOST_SAMPLES];
        }

        int add(int makerAndSort, int itsYear, int howMany, int ofThese) {
            if (count >= MOST_SAMPLES) {
                return NONE;
            }
            whose[count] = makerAndSort;
            year[count] = itsYear;
            lookedAt[count] = howMany;
            its[count] = ofThese;
            count++;
            return count;
        }

        private void gather(int makerAndSort, int itsYear) {
            looked = 0;
            found = 0;
            for (int i = 0; i < count; i++) {
                if (whose[i] == makerAndSort && year[i] == itsYear) {
                    looked += lookedAt[i];
                    found += its[i];
                }
            }
        }

        private int doubt() {
            int root = 0;
            while (root < HIGHEST_ROOT && (root + 1) * (root + 1) <= 4 * found) {
                root++;
            }
            return 1 + root;
        }

        /** Where the span starts; NONE without samples. */
        int spanFrom(int makerAndSort, int itsYear, int all) {
            gather(makerAndSort, itsYear);
            return looked <= 0 ? NONE : (int) ((long) all * Math.max(0, found - doubt()) / looked);
        }

        /** Where the span ends; NONE without samples. */
        int spanTo(int makerAndSort, int itsYear, int all) {
            gather(makerAndSort, itsYear);
            return looked <= 0 ? NONE : (int) ((long) all * (found + doubt()) / looked);
        }

        int width(int makerAndSort, int itsYear, int all) {
            int from = spanFrom(makerAndSort, itsYear, all);
            return from < 0 ? all : spanTo(makerAndSort, itsYear, all) - from;
        }
    }
}
