/** The document's terms, part 5, sentence by sentence: offers, the sets to be bought, what was bought and paid. */
public final class TermsOffersTest {
    private TermsOffersTest() {
    }

    public static void main(String[] args) {
        offerBounds();
        tillTheyAreBought();
        asMuchAsShortOrMore();
        leastPrice();
        fewestKilograms();
        theFirstSet();
        ofThatSort();
        notShort();
        shortNow();
        noSuchSet();
        allTwelve();
        boughtIsEvidence();
        boughtForTheSecond();
        schemePays();
        anyYear();
        greatestShort();
        Checks.end();
    }

    /** Two schemes, one maker in the first: it is short of so many kilograms of paper in year 0. */
    private static PacketLaw shortOf(int kilos) {
        PacketLaw x = new PacketLaw();
        x.maker();
        x.scheme();
        x.scheme();
        x.join(0, 0, 0);
        x.declare(0, 0, 0, kilos);
        Checks.law(x, 0, "target paper 100;target glass 100;target tin 100;target film 100;target mixed 100;");
        return x;
    }

    /** Offers of paper (kilograms and price) for one that is short of 100: the price, and the set as bits. */
    private static void set(int price, int bits, int... offers) {
        PacketLaw x = shortOf(100);
        for (int i = 0; i < offers.length; i += 2) {
            x.offer(0, offers[i], offers[i + 1]);
        }
        Checks.due("the price", price, () -> x.buying(0, 0, 0, 0));
        Checks.due("the set", bits, () -> x.buying(0, 0, 0, 1));
        Checks.due("asking buys nothing", offers.length / 2, () -> x.count(9));
        Checks.due("bought at that price", price, () -> x.buy(0, 0, 0));
        int left = price < 0 ? offers.length / 2 : offers.length / 2 - Integer.bitCount(bits);
        Checks.due("these are left", left, () -> x.count(9));
        Checks.due("paid", Math.max(0, price), () -> x.paid(0));
    }

    private static void offerBounds() {
        Checks.part("OFFERS: kilograms (1 to 100,000) of a SORT at a price (0 to 100,000)");
        for (int sort = 0; sort < 5; sort++) {
            int s = sort;
            PacketLaw x = shortOf(0);
            x.declare(0, s, 0, 100001);
            Checks.due("the least", 0, () -> x.offer(s, 1, 0));
            Checks.due("the most", 1, () -> x.offer(s, 100000, 100000));
            Checks.due("both are needed", 100000, () -> x.buying(0, s, 0, 0));
            Checks.due("both are needed", 3, () -> x.buying(0, s, 0, 1));
            Checks.due("one more of the least", 2, () -> x.offer(s, 2, 1));
            x.declare(0, s, 0, 100002);
            Checks.due("the first and the last are too little", 6, () -> x.buying(0, s, 0, 1));
            Checks.due("bought", 100001, () -> x.buy(0, s, 0));
            Checks.due("so much is evidence", 100002, () -> x.owes(0, s, 0, 0, 2));
        }
    }

    private static void tillTheyAreBought() {
        Checks.part("OFFERS, till they are bought");
        PacketLaw x = shortOf(10);
        for (int i = 0; i < 12; i++) {
            int offer = i;
            Checks.due("an offer", offer, () -> x.offer(0, 10, 12 - offer));
        }
        for (int i = 0; i < 12; i++) {
            int price = i + 1;
            int left = 11 - i;
            Checks.due("the cheapest that is left", 1 << left, () -> x.buying(0, 0, 0, 1));
            Checks.due("bought", price, () -> x.buy(0, 0, 0));
            Checks.due("left", left, () -> x.count(9));
            x.declare(0, 0, 0, 20 + 10 * i);
        }
        Checks.due("none is left", -1, () -> x.buy(0, 0, 0));
        Checks.due("there were 12", -1, () -> x.offer(0, 10, 0));
        Checks.due("paid", 78, () -> x.paid(0));
    }

    private static void asMuchAsShortOrMore() {
        Checks.part("BUYING: of all sets that together have as much as it is SHORT now, or more");
        set(-1, -1, 99, 1);
        set(1, 1, 100, 1);
        set(1, 1, 101, 1);
        set(-1, -1, 50, 1, 49, 1);
        set(2, 3, 50, 1, 50, 1);
        set(2, 3, 50, 1, 51, 1);
        set(-1, -1, 33, 1, 33, 1, 33, 1);
        set(3, 7, 33, 1, 33, 1, 34, 1);
        set(5, 2, 99, 0, 100, 5);
        set(1, 3, 99, 0, 1, 1, 100, 5);
    }

    private static void leastPrice() {
        Checks.part("BUYING: the one of the least price");
        set(4, 2, 100, 5, 100, 4, 100, 6);
        set(3, 1, 100000, 3, 100, 4);
        set(3, 6, 100, 4, 50, 1, 50, 2);
        set(4, 1, 100, 4, 50, 3, 50, 2);
        set(0, 4, 100, 1, 99, 0, 100, 0);
        set(0, 6, 100, 1, 99, 0, 99, 0);
        set(100000, 1, 100, 100000, 50, 50001, 50, 50000);
        set(99999, 6, 100, 100000, 50, 49999, 50, 50000);
    }

    private static void fewestKilograms() {
        Checks.part("BUYING: of these of the fewest kilograms");
        set(5, 2, 102, 5, 101, 5, 103, 5);
        set(5, 6, 101, 5, 50, 2, 50, 3);
        set(5, 4, 60, 3, 60, 2, 101, 5);
        set(5, 3, 60, 3, 40, 2, 101, 5);
        // an offer for nothing makes a set heavier and no cheaper
        set(5, 1, 100, 5, 1, 0, 1, 0);
        set(0, 1, 100, 0, 100, 0);
        set(0, 6, 200, 0, 60, 0, 50, 0, 70, 0);
        set(5, 2, 100000, 5, 100, 5);
    }

    private static void theFirstSet() {
        Checks.part("BUYING: of these the first (the set with the least OFFER that is in one and not in the other)");
        set(5, 1, 100, 5, 100, 5);
        set(5, 1, 100, 5, 50, 2, 50, 3);
        set(5, 3, 50, 2, 50, 3, 100, 5);
        set(2, 3, 50, 1, 50, 1, 50, 1);
        set(2, 9, 50, 1, 60, 1, 60, 1, 50, 1);
        // 1, 2 and 4 against 0 and 5: the one with 0 is the first
        set(6, 33, 60, 3, 35, 2, 35, 2, 99, 99, 30, 2, 40, 3);
        // 0 and 3 against 0, 1 and 2: 1 is the least in one alone
        set(6, 7, 60, 3, 20, 1, 20, 2, 40, 3);
        // 0, 2 and 3 against 0 and 1: 1 is the least in one alone, though the other has more offers
        set(6, 3, 60, 3, 40, 3, 20, 1, 20, 2);
        set(6, 6, 99, 99, 60, 3, 40, 3, 20, 1, 20, 2);
        set(3, 7, 40, 1, 30, 1, 30, 1, 40, 1, 30, 1);
    }

    private static void ofThatSort() {
        Checks.part("OFFERS of that SORT");
        PacketLaw x = shortOf(100);
        for (int sort = 4; sort >= 0; sort--) {
            int s = sort;
            Checks.due("an offer of " + s, 4 - s, () -> x.offer(s, 100, s));
            x.declare(0, s, 0, 100);
        }
        for (int sort = 0; sort < 5; sort++) {
            int s = sort;
            Checks.due("the set of " + s, 1 << 4 - s, () -> x.buying(0, s, 0, 1));
            Checks.due("the price of " + s, s, () -> x.buy(0, s, 0));
            Checks.due("it is of no other sort", 100, () -> x.owes(0, s, 0, 0, 2));
            Checks.due("left", 4 - s, () -> x.count(9));
        }
        PacketLaw y = shortOf(100);
        y.offer(1, 100000, 0);
        y.offer(2, 100000, 0);
        Checks.due("of other sorts alone", -1, () -> y.buying(0, 0, 0, 1));
    }

    private static void notShort() {
        Checks.part("0 and 0, if it is not SHORT");
        PacketLaw x = shortOf(0);
        Checks.due("bound to nothing, the price", 0, () -> x.buying(0, 0, 0, 0));
        Checks.due("bound to nothing, the bits", 0, () -> x.buying(0, 0, 0, 1));
        x.offer(0, 1, 0);
        Checks.due("an offer for nothing, the bits", 0, () -> x.buying(0, 0, 0, 1));
        Checks.due("bought: nothing", 0, () -> x.buy(0, 0, 0));
        Checks.due("it is left", 1, () -> x.count(9));
        x.declare(0, 0, 0, 1);
        Checks.due("short by one", 1, () -> x.buying(0, 0, 0, 1));
        x.load(0, 100, 100, 0, 0, 0, 0);
        x.note(0, 0, 1, 0);
        Checks.due("no longer", 0, () -> x.buying(0, 0, 0, 1));
        x.note(0, 0, 50, 0);
        Checks.due("more evidence than it is bound to", 0, () -> x.buying(0, 0, 0, 0));
        Checks.due("bought: nothing", 0, () -> x.buy(0, 0, 0));
        Checks.due("another scheme", 0, () -> x.buy(1, 0, 0));
        Checks.due("nothing is paid", 0, () -> x.paid(0));
    }

    private static void shortNow() {
        Checks.part("as much as it is SHORT now");
        PacketLaw x = shortOf(100);
        x.offer(0, 100, 7);
        x.offer(0, 60, 4);
        x.offer(0, 40, 2);
        Checks.due("100", 6, () -> x.buying(0, 0, 0, 1));
        x.years(1);
        x.declare(0, 0, 0, 40);
        Checks.due("as declared now", 4, () -> x.buying(0, 0, 0, 1));
        x.orphans(0, 0, 20);
        Checks.due("and orphans", 2, () -> x.buying(0, 0, 0, 1));
        x.load(0, 100, 100, 0, 0, 0, 0);
        x.note(0, 0, 20, 0);
        Checks.due("a note of a load of this year does not count for the last", 2, () -> x.buying(0, 0, 0, 1));
        Checks.due("bought", 4, () -> x.buy(0, 0, 0));
        x.declare(0, 0, 0, 80);
        Checks.due("what was bought counts: 40 are lacking", 4, () -> x.buying(0, 0, 0, 1));
    }

    private static void noSuchSet() {
        Checks.part("NONE: there is no such set");
        PacketLaw x = shortOf(100);
        Checks.due("without offers", -1, () -> x.buying(0, 0, 0, 0));
        Checks.due("without offers", -1, () -> x.buying(0, 0, 0, 1));
        Checks.due("without offers", -1, () -> x.buy(0, 0, 0));
        x.offer(0, 99, 0);
        Checks.due("by one too little", -1, () -> x.buying(0, 0, 0, 0));
        Checks.due("by one too little", -1, () -> x.buying(0, 0, 0, 1));
        Checks.due("by one too little", -1, () -> x.buy(0, 0, 0));
        Checks.due("nothing is bought", 1, () -> x.count(9));
        Checks.due("nothing is evidence", 0, () -> x.owes(0, 0, 0, 0, 2));
        x.offer(0, 1, 100000);
        Checks.due("just enough", 100000, () -> x.buying(0, 0, 0, 0));
    }

    private static void allTwelve() {
        Checks.part("BUYING of twelve OFFERS");
        PacketLaw x = shortOf(1200000);
        for (int i = 0; i < 12; i++) {
            x.offer(0, 100000, 100000);
        }
        Checks.due("all of them", 1200000, () -> x.buying(0, 0, 0, 0));
        Checks.due("all bits", 4095, () -> x.buying(0, 0, 0, 1));
        x.declare(0, 0, 0, 1200001);
        Checks.due("one kilogram more", -1, () -> x.buying(0, 0, 0, 0));
        x.declare(0, 0, 0, 1100000);
        Checks.due("the last is not needed", 2047, () -> x.buying(0, 0, 0, 1));
        x.declare(0, 0, 0, 600000);
        Checks.due("the first six", 63, () -> x.buying(0, 0, 0, 1));
        x.declare(0, 0, 0, 1);
        Checks.due("the first", 1, () -> x.buying(0, 0, 0, 1));
        x.declare(0, 0, 0, 1200000);
        Checks.due("bought", 1200000, () -> x.buy(0, 0, 0));
        Checks.due("evidence", 1200000, () -> x.owes(0, 0, 0, 0, 2));
        Checks.due("paid", 1200000, () -> x.paid(0));
        Checks.due("left", 0, () -> x.count(9));
        // powers of two: the set is the number itself, seen from the other side
        PacketLaw y = shortOf(0);
        for (int i = 0; i < 12; i++) {
            y.offer(0, 1 << 11 - i, 1 << 11 - i);
        }
        for (int kilos : new int[] {1, 2, 3, 1365, 2048, 2730, 4094, 4095}) {
            int bits = Integer.reverse(kilos) >>> 20;
            int lacks = kilos;
            y.declare(0, 0, 0, lacks);
            Checks.due("the set of " + lacks, bits, () -> y.buying(0, 0, 0, 1));
            Checks.due("the price of " + lacks, lacks, () -> y.buying(0, 0, 0, 0));
        }
    }

    private static void boughtIsEvidence() {
        Checks.part("Bought, they are EVIDENCE for it from now on");
        PacketLaw x = shortOf(100);
        x.years(5);
        x.offer(0, 130, 7);
        x.buy(0, 0, 0);
        Checks.due("all kilograms of it", 130, () -> x.owes(0, 0, 0, 5, 2));
        Checks.due("not as known before", 0, () -> x.owes(0, 0, 0, 4, 2));
        Checks.due("as known in a year to come", 130, () -> x.owes(0, 0, 0, 40, 2));
        Checks.due("not for the year in which it was bought", 0, () -> x.owes(0, 0, 5, 5, 2));
        Checks.due("not of another sort", 0, () -> x.owes(0, 1, 0, 5, 2));
        Checks.due("not for another scheme", 0, () -> x.owes(1, 0, 0, 5, 2));
        Checks.due("not short", 0, () -> x.owes(0, 0, 0, 5, 3));
        Checks.due("short as known before", 100, () -> x.owes(0, 0, 0, 4, 3));
        x.declare(0, 0, 0, 131);
        x.offer(0, 1, 2);
        x.years(1);
        Checks.due("bought again", 2, () -> x.buy(0, 0, 0));
        Checks.due("together", 131, () -> x.owes(0, 0, 0, 6, 2));
        Checks.due("before", 130, () -> x.owes(0, 0, 0, 5, 2));
        Checks.due("no note was told", 0, () -> x.count(7));
    }

    private static void boughtForTheSecond() {
        Checks.part("Bought, they are EVIDENCE for it: for that SCHEME, SORT, YEAR");
        PacketLaw x = shortOf(10);
        x.join(0, 1, 3);
        x.years(4);
        x.declare(0, 2, 3, 60);
        x.offer(2, 40, 8);
        x.offer(2, 30, 9);
        x.offer(0, 60, 1);
        Checks.due("of tin, for 3", 3, () -> x.buying(1, 2, 3, 1));
        Checks.due("bought", 17, () -> x.buy(1, 2, 3));
        for (int scheme = 0; scheme < 2; scheme++) {
            for (int sort = 0; sort < 5; sort++) {
                for (int year = 0; year <= 5; year++) {
                    int s = scheme;
                    int of = sort;
                    int when = year;
                    boolean here = scheme == 1 && sort == 2 && year == 3;
                    Checks.due("evidence of " + s + ", sort " + of + ", year " + when, here ? 70 : 0, () -> x.owes(s, of, when, 4, 2));
                }
            }
        }
        Checks.due("not known in 3", 0, () -> x.owes(1, 2, 3, 3, 2));
        Checks.due("paid by the second", 17, () -> x.paid(1));
        Checks.due("paid by the first", 0, () -> x.paid(0));
        Checks.due("the second is no longer short", 0, () -> x.buying(1, 2, 3, 1));
    }

    private static void schemePays() {
        Checks.part("and the SCHEME has paid");
        PacketLaw x = shortOf(10);
        x.join(0, 1, 1);
        x.years(1);
        x.declare(0, 0, 1, 10);
        x.offer(0, 10, 100);
        x.offer(0, 10, 30);
        x.offer(0, 10, 5);
        x.offer(1, 10, 3);
        x.offer(1, 10, 0);
        Checks.due("at first", 0, () -> x.paid(0));
        Checks.due("the first scheme, for 0", 5, () -> x.buy(0, 0, 0));
        Checks.due("the second scheme, for 1", 30, () -> x.buy(1, 0, 1));
        Checks.due("paid by the first", 5, () -> x.paid(0));
        Checks.due("paid by the second", 30, () -> x.paid(1));
        x.declare(0, 0, 0, 20);
        Checks.due("once more", 100, () -> x.buy(0, 0, 0));
        Checks.due("together", 105, () -> x.paid(0));
        x.declare(0, 1, 0, 20);
        Checks.due("of another sort, one for nothing", 3, () -> x.buy(0, 1, 0));
        Checks.due("together", 108, () -> x.paid(0));
        Checks.due("the second as before", 30, () -> x.paid(1));
    }

    private static void anyYear() {
        Checks.part("BUYING for a YEAR");
        PacketLaw x = shortOf(100);
        x.years(40);
        x.declare(0, 0, 40, 7);
        x.offer(0, 7, 1);
        x.offer(0, 100, 2);
        Checks.due("for the last year", 1, () -> x.buying(0, 0, 40, 1));
        Checks.due("for the first", 2, () -> x.buying(0, 0, 0, 1));
        Checks.due("for one in between, of nothing declared", 0, () -> x.buying(0, 0, 20, 1));
        Checks.due("bought for the last", 1, () -> x.buy(0, 0, 40));
        Checks.due("evidence of the last", 7, () -> x.owes(0, 0, 40, 40, 2));
        PacketLaw y = shortOf(0);
        y.declare(0, 0, 0, 5);
        y.orphans(0, 3, 9);
        y.offer(0, 9, 1);
        Checks.due("for a year to come nobody has orphans", 0, () -> y.buying(0, 0, 3, 1));
    }

    private static void greatestShort() {
        Checks.part("BUYING, short of more than all OFFERS could have");
        PacketLaw x = shortOf(10000000);
        for (int i = 1; i < 10; i++) {
            x.maker();
            x.join(i, 0, 0);
            x.declare(i, 0, 0, 10000000);
        }
        x.orphans(0, 0, 1000000);
        x.offer(0, 100000, 0);
        Checks.due("short", 101000000L, () -> x.owes(0, 0, 0, 0, 3));
        Checks.due("none", -1, () -> x.buying(0, 0, 0, 0));
        Checks.due("none", -1, () -> x.buy(0, 0, 0));
    }
}
