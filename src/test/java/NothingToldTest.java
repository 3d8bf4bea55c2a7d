import java.util.NoSuchElementException;

/** What each call answers when nothing has been told at all, and when only those are there that it asks for. */
public final class NothingToldTest {
    private static final Class<NoSuchElementException> NO_SUCH = NoSuchElementException.class;
    private static final Class<IndexOutOfBoundsException> INDEX = IndexOutOfBoundsException.class;
    private static final Class<IllegalArgumentException> ARGUMENT = IllegalArgumentException.class;

    private NothingToldTest() {
    }

    public static void main(String[] args) {
        newObject();
        lawsOfNone();
        nobodyThere();
        makerAlone();
        packetAlone();
        makeAlone();
        schemeAlone();
        loadAlone();
        objectsApart();
        Checks.end();
    }

    private static void newObject() {
        Checks.part("a new object: YEAR 0, nothing told");
        PacketLaw x = new PacketLaw();
        for (int what = 0; what <= 12; what++) {
            int w = what;
            Checks.due("count(" + w + ")", 0, () -> x.count(w));
        }
        Checks.due("fault()", -1, x::fault);
        Checks.due("years(0)", 0, () -> x.years(0));
        Checks.dueThrow("a byte of an empty tape", ARGUMENT, () -> x.law(0, 1));
        Checks.due("fault()", -1, x::fault);
        for (int year = 0; year <= 40; year += 20) {
            int y = year;
            Checks.due("shyest", -1, () -> x.shyest(y));
            for (int town = 0; town < 6; town++) {
                int t = town;
                Checks.due("pay", 0, () -> x.pay(t, y, -1));
            }
            for (int sort = 0; sort < 5; sort++) {
                int s = sort;
                Checks.due("orphans", 0, () -> x.orphans(s, y, 0));
            }
        }
    }

    private static void lawsOfNone() {
        Checks.part("without LAWS");
        PacketLaw x = new PacketLaw();
        int[] without = {0, 100, 0, 0, 1, 0};
        for (int year = 0; year <= 40; year += 10) {
            int y = year;
            for (int sort = 0; sort < 5; sort++) {
                int s = sort;
                Checks.due("why", -1, () -> x.why(y, s));
                for (int what = 0; what < 6; what++) {
                    int w = what;
                    Checks.due("tells " + w, without[w], () -> x.tells(y, s, w));
                }
            }
        }
        Checks.due("a law of nothing", 0, () -> x.law(0, 0));
        Checks.due("tells nothing", 100, () -> x.tells(0, 0, 1));
        Checks.due("why", -1, () -> x.why(0, 0));
        Checks.due("no fault", -1, x::fault);
    }

    private static void nobodyThere() {
        Checks.part("nobody there");
        PacketLaw x = new PacketLaw();
        Checks.dueThrow("packet", NO_SUCH, () -> x.packet(0));
        Checks.dueThrow("make", NO_SUCH, () -> x.make(0, 0, 0, 0, 0, 0, 0));
        Checks.dueThrow("made", NO_SUCH, () -> x.made(0, 0));
        Checks.dueThrow("sold", NO_SUCH, () -> x.sold(0, 0, 0, 0, 1));
        Checks.dueThrow("kilos", NO_SUCH, () -> x.kilos(0, 0, 0));
        Checks.dueThrowOfTruth("banned", NO_SUCH, () -> x.banned(0, 0, 0));
        Checks.dueThrow("truly", NO_SUCH, () -> x.truly(0, 0, 0));
        Checks.dueThrow("declare", NO_SUCH, () -> x.declare(0, 0, 0, 0));
        Checks.dueThrow("declared", NO_SUCH, () -> x.declared(0, 0, 0, 0));
        Checks.dueThrowOfTruth("small", NO_SUCH, () -> x.small(0, 0, 0));
        Checks.dueThrow("fee", NO_SUCH, () -> x.fee(0, 0, 0));
        Checks.dueThrow("bill", NO_SUCH, () -> x.bill(0, 0));
        Checks.dueThrow("tried", NO_SUCH, () -> x.tried(0, 0, 0));
        Checks.dueThrow("cheapest", NO_SUCH, () -> x.cheapest(0, 0, -1));
        Checks.dueThrow("join", NO_SUCH, () -> x.join(0, -1, 0));
        Checks.dueThrow("in", NO_SUCH, () -> x.in(0, 0));
        Checks.dueThrow("sample", NO_SUCH, () -> x.sample(0, 0, 0, 1, 0));
        Checks.dueThrow("span", NO_SUCH, () -> x.span(0, 0, 0, 0));
        Checks.dueThrow("shy", NO_SUCH, () -> x.shy(0, 0, 0));
        Checks.dueThrow("worth", NO_SUCH, () -> x.worth(0, 0));
        Checks.dueThrow("owes", INDEX, () -> x.owes(0, 0, 0, 0, 0));
        Checks.dueThrow("out", INDEX, () -> x.out(0, 0));
        Checks.dueThrow("note", INDEX, () -> x.note(0, 0, 1, 0));
        Checks.dueThrowOfTruth("forged", INDEX, () -> x.forged(0));
        Checks.dueThrow("pay", INDEX, () -> x.pay(0, 0, 0));
        Checks.dueThrow("buying", INDEX, () -> x.buying(0, 0, 0, 0));
        Checks.dueThrow("buy", INDEX, () -> x.buy(0, 0, 0));
        Checks.dueThrow("paid", INDEX, () -> x.paid(0));
    }

    private static void makerAlone() {
        Checks.part("a maker alone");
        PacketLaw x = new PacketLaw();
        x.maker();
        for (int year = 0; year <= 40; year += 40) {
            int y = year;
            for (int sort = 0; sort < 5; sort++) {
                int s = sort;
                Checks.due("truly", 0, () -> x.truly(0, s, y));
                Checks.due("declared", 0, () -> x.declared(0, s, y, 40));
                Checks.due("span from", -1, () -> x.span(0, s, y, 0));
                Checks.due("span to", -1, () -> x.span(0, s, y, 1));
                Checks.due("shy", 0, () -> x.shy(0, s, y));
            }
            Checks.dueTruth("small", false, () -> x.small(0, y, 40));
            Checks.due("fee", 0, () -> x.fee(0, y, 40));
            Checks.due("bill", 0, () -> x.bill(0, y));
            Checks.due("tried", 0, () -> x.tried(0, y, 0));
            Checks.due("cheapest", 0, () -> x.cheapest(0, y, -1));
            for (int what = 0; what < 5; what++) {
                int w = what;
                Checks.due("cheapest " + w, -1, () -> x.cheapest(0, y, w));
            }
            Checks.due("in", -1, () -> x.in(0, y));
            Checks.due("worth", 0, () -> x.worth(0, y));
            Checks.due("shyest", -1, () -> x.shyest(y));
        }
    }

    private static void packetAlone() {
        Checks.part("a packet alone");
        PacketLaw x = new PacketLaw();
        x.maker();
        x.packet(0);
        for (int sort = 0; sort < 5; sort++) {
            int s = sort;
            Checks.due("kilos", 0, () -> x.kilos(0, s, 0));
            Checks.due("truly", 0, () -> x.truly(0, s, 0));
        }
        Checks.dueThrow("made", ARGUMENT, () -> x.made(0, 0));
        Checks.dueThrowOfTruth("banned", ARGUMENT, () -> x.banned(0, 0, 0));
        Checks.due("sold", 0, () -> x.sold(0, 0, 1000, 0, 1));
        Checks.due("kilos without makes, sold", 0, () -> x.kilos(0, 0, 0));
        for (int what = -1; what < 5; what++) {
            int w = what;
            Checks.due("cheapest " + w, -1, () -> x.cheapest(0, 0, w));
        }
        Checks.due("fee", 0, () -> x.fee(0, 0, 0));
    }

    private static void makeAlone() {
        Checks.part("a make alone, of nothing");
        PacketLaw x = new PacketLaw();
        x.maker();
        x.packet(0);
        x.make(0, 0, 0, 0, 0, 0, 0);
        Checks.due("kilos", 0, () -> x.kilos(0, 0, 0));
        Checks.due("made", 0, () -> x.made(0, 0));
        Checks.dueTruth("banned", false, () -> x.banned(0, 0, 0));
        Checks.due("cheapest", 0, () -> x.cheapest(0, 0, -1));
        Checks.due("cheapest 0", 0, () -> x.cheapest(0, 0, 0));
        Checks.due("cheapest 1", -1, () -> x.cheapest(0, 0, 1));
        Checks.due("sold", 0, () -> x.sold(0, 0, 1000, 0, 1));
        Checks.due("kilos of no grams", 0, () -> x.kilos(0, 0, 0));
        Checks.due("sold in another year", 0, () -> x.sold(0, 1, 0, 0, 1));
    }

    private static void schemeAlone() {
        Checks.part("a scheme alone");
        PacketLaw x = new PacketLaw();
        x.scheme();
        for (int sort = 0; sort < 5; sort++) {
            int s = sort;
            for (int what = 0; what < 5; what++) {
                int w = what;
                Checks.due("owes " + w, 0, () -> x.owes(0, s, 0, 0, w));
                Checks.due("owes " + w + " in 40", 0, () -> x.owes(0, s, 40, 40, w));
            }
            Checks.due("buying: the price", 0, () -> x.buying(0, s, 0, 0));
            Checks.due("buying: the offers", 0, () -> x.buying(0, s, 0, 1));
            Checks.due("buy", 0, () -> x.buy(0, s, 0));
        }
        Checks.due("paid", 0, () -> x.paid(0));
        Checks.due("pay", 0, () -> x.pay(0, 0, 0));
        Checks.dueThrow("note", INDEX, () -> x.note(0, 0, 1, 0));
        x.maker();
        Checks.due("nobody is in it", -1, () -> x.in(0, 0));
    }

    private static void loadAlone() {
        Checks.part("a load alone");
        PacketLaw x = new PacketLaw();
        x.load(0, 100, 100, 0, 0, 0, 0);
        Checks.due("out", 100, () -> x.out(0, 0));
        Checks.due("year", 0, () -> x.out(0, 6));
        Checks.due("pay", 0, () -> x.pay(0, 0, -1));
        Checks.dueThrow("a note for no scheme", INDEX, () -> x.note(0, 0, 1, 0));
        Checks.dueThrow("a note for none", INDEX, () -> x.note(0, 0, 1, -1));
        Checks.due("notes", 0, () -> x.count(7));
    }

    private static void objectsApart() {
        Checks.part("one object is not another");
        PacketLaw x = new PacketLaw();
        PacketLaw y = new PacketLaw();
        x.years(5);
        x.maker();
        x.scheme();
        x.packet(0);
        x.make(0, 1, 1, 1, 1, 1, 1);
        x.declare(0, 0, 0, 5);
        x.join(0, 0, 0);
        x.load(0, 100, 100, 0, 0, 0, 0);
        x.note(0, 0, 100, 0);
        x.offer(0, 1, 1);
        x.sample(0, 0, 0, 1, 1);
        x.orphans(0, 0, 5);
        Checks.law(x, 0, "least 5;off paper 5;");
        Checks.law(x, 0, "?");
        x.feed(0, 0, 0, 0, 0);
        for (int what = 0; what <= 12; what++) {
            int w = what;
            Checks.due("count(" + w + ") of the other", 0, () -> y.count(w));
        }
        Checks.due("fault of the other", -1, y::fault);
        Checks.due("orphans of the other", 0, () -> y.orphans(0, 0, 0));
        Checks.due("least of the other", 0, () -> y.tells(0, 0, 3));
        Checks.due("off of the other", 100, () -> y.tells(0, 0, 1));
        Checks.due("fault of the first", 0, x::fault);
        Checks.due("law of the other", 0, () -> y.law(0, 0));
        Checks.due("fault of the first", 0, x::fault);
    }
}
