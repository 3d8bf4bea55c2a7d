/** The document's terms, part 2, sentence by sentence: makers, packets, makes, kilograms, fees, bans, the cheapest. */
public final class TermsMakersTest {
    private TermsMakersTest() {
    }

    public static void main(String[] args) {
        packetsAreNumbered();
        gramsOfEachSort();
        makeNoughtAtFirst();
        soldAtFirst();
        soldToldAnew();
        layersOfAMake();
        kilosAreCut();
        tripsAtMost();
        trueKilos();
        declaredAtFirst();
        declaredBounds();
        declaredAsKnown();
        smallIsBelow();
        noFeeIfSmall();
        valueBounds();
        feeIsCut();
        feeByTheFirstYear();
        factYear();
        factKilos();
        factShare();
        factGramsAndLayers();
        billedBefore();
        bannedByGrams();
        bannedFacts();
        cheapestRow();
        cheapestFee();
        cheapestOthers();
        cheapestSeven();
        cheapestLayers();
        cheapestCostOfAllSold();
        cheapestInItsYear();
        cheapestGramsBySort();
        cheapestMakesNothing();
        cheapestFirst();
        cheapestNone();
        cheapestFiveOfFive();
        Checks.end();
    }

    private static PacketLaw makers(int many) {
        PacketLaw x = new PacketLaw();
        for (int i = 0; i < many; i++) {
            x.maker();
        }
        return x;
    }

    private static void packetsAreNumbered() {
        Checks.part("PACKETS, numbered from 0 on: of a MAKER, of MAKES, numbered from 0 on");
        PacketLaw x = makers(3);
        Checks.due("the first, of the last maker", 0, () -> x.packet(2));
        Checks.due("the second, of another", 1, () -> x.packet(0));
        Checks.due("the third", 2, () -> x.packet(2));
        Checks.due("its first make", 0, () -> x.make(2, 3, 0, 0, 0, 0, 0));
        Checks.due("its second make", 1, () -> x.make(2, 4, 0, 0, 0, 0, 0));
        Checks.due("another packet's first make", 0, () -> x.make(0, 5, 0, 0, 0, 0, 0));
        for (int p = 0; p < 3; p++) {
            x.sold(p, 0, 1, 0, 1);
        }
        Checks.due("the maker of two packets", 8, () -> x.truly(2, 0, 0));
        Checks.due("the maker of one without makes", 0, () -> x.truly(0, 0, 0));
        Checks.due("the maker of none", 0, () -> x.truly(1, 0, 0));
    }

    private static void gramsOfEachSort() {
        Checks.part("grams of each SORT (0 to 200) and a COST (0 to 1,000 coins for a thousand)");
        for (int i = 0; i < 5; i++) {
            int sort = i;
            for (int grams : new int[] {0, 1, 199, 200}) {
                PacketLaw x = makers(1);
                x.packet(0);
                int[] all = new int[5];
                all[sort] = grams;
                Checks.due("make of " + grams, 0, () -> x.make(0, all[0], all[1], all[2], all[3], all[4], 0));
                x.sold(0, 0, 1, 0, 1);
                for (int j = 0; j < 5; j++) {
                    int other = j;
                    Checks.due("kilos of " + j, all[j], () -> x.kilos(0, other, 0));
                }
            }
        }
        PacketLaw y = makers(1);
        y.packet(0);
        y.make(0, 0, 0, 0, 0, 0, 1000);
        y.sold(0, 0, 1000, 0, 1);
        Checks.due("the greatest cost", 1000000, () -> y.cheapest(0, 0, -1));
        y.make(0, 0, 0, 0, 0, 0, 0);
        Checks.due("the least cost", 0, () -> y.cheapest(0, 0, -1));
    }

    private static void makeNoughtAtFirst() {
        Checks.part("MAKE 0 is made at first");
        PacketLaw x = makers(1);
        x.packet(0);
        x.sold(0, 0, 1, 0, 1);
        for (int make = 0; make < 5; make++) {
            x.make(0, 10 + make, 0, 0, 0, 0, 0);
            Checks.due("a new make changes nothing", 10, () -> x.kilos(0, 0, 0));
        }
        x.packet(0);
        x.make(1, 1, 0, 0, 0, 0, 0);
        x.make(1, 2, 0, 0, 0, 0, 0);
        Checks.due("another packet's: it was 0", 0, () -> x.made(1, 1));
        Checks.due("another packet's: it was 1", 1, () -> x.made(1, 1));
        Checks.due("made as the last: it was 0", 0, () -> x.made(0, 4));
        Checks.due("made so from now on", 14, () -> x.kilos(0, 0, 0));
        Checks.due("made as the third: it was 4", 4, () -> x.made(0, 2));
        Checks.due("made so in all years, earlier ones too", 12, () -> x.kilos(0, 0, 0));
        Checks.dueThrow("no fifth make", IllegalArgumentException.class, () -> x.made(0, 5));
        Checks.due("it is 2 still", 2, () -> x.made(0, 2));
    }

    private static void soldAtFirst() {
        Checks.part("SOLD (0 to 1,000), ABROAD, TRIPS (1 to 50): 0, 0, 1 at first");
        PacketLaw x = makers(1);
        x.packet(0);
        x.make(0, 200, 0, 0, 0, 0, 1000);
        for (int i = 0; i <= 40; i++) {
            int year = i;
            Checks.due("sold at first in " + i, 0, () -> x.kilos(0, 0, year));
            Checks.due("and told so", 0, () -> x.sold(0, year, year, 0, 1));
            Checks.due("a year of its own", 200 * i, () -> x.kilos(0, 0, year));
        }
        Checks.law(x, 0, "trips 50;off paper 0;");
        Checks.due("the least: none abroad", 0, () -> x.sold(0, 0, 0, 0, 1));
        Checks.due("the greatest, all abroad", 0, () -> x.sold(0, 0, 1000, 1000, 50));
        Checks.due("by 50", 4000, () -> x.kilos(0, 0, 0));
        Checks.due("the greatest, by 1", 1000, () -> x.sold(0, 0, 1000, 0, 1));
        Checks.due("by 1", 200000, () -> x.kilos(0, 0, 0));
        Checks.dueThrow("one more abroad than sold", IllegalArgumentException.class, () -> x.sold(0, 0, 999, 1000, 1));
        Checks.dueThrow("abroad of none", IllegalArgumentException.class, () -> x.sold(0, 0, 0, 1, 1));
        Checks.due("nothing is changed", 200000, () -> x.kilos(0, 0, 0));
        Checks.due("as it was", 1000, () -> x.sold(0, 0, 1000, 999, 1));
    }

    private static void soldToldAnew() {
        Checks.part("SOLD, ABROAD, TRIPS told anew");
        PacketLaw x = makers(1);
        x.packet(0);
        x.packet(0);
        x.make(0, 10, 0, 0, 0, 0, 7);
        x.make(1, 10, 0, 0, 0, 0, 7);
        Checks.law(x, 0, "trips 50;");
        x.sold(0, 3, 100, 50, 5);
        Checks.due("100 less 50, by 5", 100, () -> x.kilos(0, 0, 3));
        Checks.due("told anew", 100, () -> x.sold(0, 3, 80, 0, 1));
        Checks.due("all three are anew", 800, () -> x.kilos(0, 0, 3));
        Checks.due("another packet's is its own", 0, () -> x.kilos(1, 0, 3));
        Checks.due("told again", 80, () -> x.sold(0, 3, 0, 0, 1));
        Checks.due("none", 0, () -> x.kilos(0, 0, 3));
        Checks.due("cost times sold", 0, () -> x.cheapest(0, 3, -1));
        Checks.due("for a year to come, before it is there", 0, () -> x.sold(0, 40, 9, 0, 1));
        Checks.due("kilos of it", 90, () -> x.kilos(0, 0, 40));
    }

    private static void layersOfAMake() {
        Checks.part("LAYERS of a MAKE: how many SORTS have grams");
        int[][] makes = {{0, 0, 0, 0, 0}, {1, 0, 0, 0, 0}, {0, 0, 0, 0, 1}, {1, 0, 0, 0, 200}, {1, 1, 1, 0, 0}, {0, 1, 1, 1, 1}, {1, 1, 1, 1, 1}};
        int[] want = {0, 1, 1, 2, 3, 4, 5};
        for (int i = 0; i < makes.length; i++) {
            int[] g = makes[i];
            PacketLaw x = makers(1);
            x.declare(0, 0, 0, 1000);
            x.packet(0);
            x.make(0, g[0], g[1], g[2], g[3], g[4], 0);
            Checks.law(x, 0, "fee paper=layers;");
            Checks.due("layers of make " + i, want[i], () -> x.fee(0, 0, 0));
        }
    }

    private static void kilosAreCut() {
        Checks.part("KILOS: grams times (100 SOLD less off times ABROAD), by 100, cut, then by TRIPS, cut");
        PacketLaw x = makers(1);
        x.packet(0);
        x.make(0, 1, 3, 99, 0, 200, 0);
        Checks.law(x, 0, "off paper 1;off glass 33;off tin 99;off mixed 100;trips 50;");
        x.sold(0, 0, 1, 1, 1);
        Checks.due("0.99", 0, () -> x.kilos(0, 0, 0));
        Checks.due("2.01", 2, () -> x.kilos(0, 1, 0));
        Checks.due("0.99", 0, () -> x.kilos(0, 2, 0));
        Checks.due("no grams", 0, () -> x.kilos(0, 3, 0));
        Checks.due("all is off", 0, () -> x.kilos(0, 4, 0));
        x.sold(0, 0, 1000, 1000, 7);
        Checks.due("990 by 7: 141.4", 141, () -> x.kilos(0, 0, 0));
        Checks.due("2010 by 7: 287.1", 287, () -> x.kilos(0, 1, 0));
        Checks.due("990 by 7", 141, () -> x.kilos(0, 2, 0));
        // cut twice: 3 times (100 * 5 - 33 * 2) is 1302: 13, by 2: 6; cut once it would be 6.51
        x.sold(0, 0, 5, 2, 2);
        Checks.due("13 by 2", 6, () -> x.kilos(0, 1, 0));
        // 99 times (500 - 198) is 29898: 298, by 2 it is 149; not cut before it would be 149.49
        Checks.due("298 by 2", 149, () -> x.kilos(0, 2, 0));
        // 1 times (300 - 1) is 299: 2, by 2: 1; 2.99 by 2 would be 1 too; by 3: 2 by 3 is 0, and 2.99 by 3 is 0
        x.sold(0, 0, 3, 1, 3);
        Checks.due("2 by 3", 0, () -> x.kilos(0, 0, 0));
        x.sold(0, 0, 3, 0, 3);
        Checks.due("3 by 3", 1, () -> x.kilos(0, 0, 0));
        Checks.law(x, 0, "off mixed 0;");
        x.sold(0, 0, 1000, 1000, 1);
        Checks.due("off nothing", 200000, () -> x.kilos(0, 4, 0));
    }

    private static void tripsAtMost() {
        Checks.part("by TRIPS (trips at most)");
        int[][] rows = {{1, 1, 100}, {1, 50, 100}, {2, 1, 100}, {2, 2, 50}, {2, 3, 50}, {49, 50, 2}, {50, 49, 2}, {50, 50, 2}, {50, 1, 100}};
        for (int[] row : rows) {
            PacketLaw x = makers(1);
            x.packet(0);
            x.make(0, 0, 0, 100, 0, 0, 0);
            x.sold(0, 0, 1, 0, row[1]);
            Checks.law(x, 0, "trips " + row[0] + ";");
            Checks.due("trips " + row[0] + ", told " + row[1], row[2], () -> x.kilos(0, 2, 0));
        }
    }

    private static void trueKilos() {
        Checks.part("TRUE KILOS of a MAKER: those of its PACKETS, as they are made");
        PacketLaw x = makers(2);
        Checks.due("without packets", 0, () -> x.truly(0, 0, 0));
        for (int p = 0; p < 20; p++) {
            x.packet(0);
        }
        Checks.due("without makes", 0, () -> x.truly(0, 0, 0));
        for (int p = 0; p < 20; p++) {
            x.make(p, 200, 200, 200, 200, 200, 0);
            x.sold(p, 40, 1000, 0, 1);
        }
        for (int sort = 0; sort < 5; sort++) {
            int s = sort;
            Checks.due("the most: 20 packets", 4000000, () -> x.truly(0, s, 40));
        }
        Checks.due("in another year", 0, () -> x.truly(0, 0, 39));
        Checks.due("of another maker", 0, () -> x.truly(1, 0, 40));
        // each packet is cut by itself: 3 packets of 0.99
        PacketLaw y = makers(1);
        Checks.law(y, 0, "off paper 1;");
        for (int p = 0; p < 3; p++) {
            y.packet(0);
            y.make(p, 1, 0, 0, 0, 0, 0);
            y.sold(p, 0, 1, 1, 1);
        }
        Checks.due("each is cut by itself", 0, () -> y.truly(0, 0, 0));
    }

    private static void declaredAtFirst() {
        Checks.part("DECLARED: 0 at first");
        PacketLaw x = makers(2);
        x.years(40);
        for (int sort = 0; sort < 5; sort++) {
            for (int year = 0; year <= 40; year += 8) {
                int s = sort;
                int y = year;
                Checks.due("at first", 0, () -> x.declared(1, s, y, 40));
                Checks.due("each is told by itself", 1 + s * 6 + y / 8, () -> x.declare(1, s, y, 1 + s * 100 + y));
            }
        }
        for (int sort = 0; sort < 5; sort++) {
            for (int year = 0; year <= 40; year += 8) {
                int s = sort;
                int y = year;
                Checks.due("each is kept by itself", 1 + s * 100 + y, () -> x.declared(1, s, y, 40));
                Checks.due("the other maker's", 0, () -> x.declared(0, s, y, 40));
            }
        }
    }

    private static void declaredBounds() {
        Checks.part("DECLARED are kilograms (0 to 10,000,000)");
        PacketLaw x = makers(1);
        x.years(3);
        int[] kilos = {0, 1, 9999999, 10000000, 0};
        for (int i = 0; i < kilos.length; i++) {
            int many = kilos[i];
            int times = i + 1;
            Checks.due("declare " + many, times, () -> x.declare(0, 0, 3, many));
            Checks.due("declared", many, () -> x.declared(0, 0, 3, 3));
        }
        Checks.dueThrow("10,000,001", IllegalArgumentException.class, () -> x.declare(0, 0, 3, 10000001));
        Checks.dueThrow("-1", IllegalArgumentException.class, () -> x.declare(0, 0, 3, -1));
        Checks.dueThrow("of next year", IllegalArgumentException.class, () -> x.declare(0, 0, 4, 1));
        Checks.due("refused ones don't count", 5, () -> x.count(4));
        Checks.due("nor tell", 0, () -> x.declared(0, 0, 3, 3));
    }

    private static void declaredAsKnown() {
        Checks.part("as KNOWN in a YEAR what was told last up to that one");
        PacketLaw x = makers(1);
        for (int year = 0; year < 5; year++) {
            x.declare(0, 1, 0, 10 + year);
            x.declare(0, 1, 0, 20 + year);
            x.years(1);
        }
        x.declare(0, 1, 0, 20);
        for (int known = 0; known < 5; known++) {
            int k = known;
            Checks.due("of two in a year the last, known in " + known, 20 + known, () -> x.declared(0, 1, 0, k));
        }
        Checks.due("told anew as it was", 20, () -> x.declared(0, 1, 0, 5));
        Checks.due("known in a year to come", 20, () -> x.declared(0, 1, 0, 40));
        Checks.due("known before all", 0, () -> x.declared(0, 1, 0, -1));
        x.declare(0, 1, 5, 7);
        Checks.due("of a year, known in the one before", 0, () -> x.declared(0, 1, 5, 4));
        Checks.due("of a year, known in it", 7, () -> x.declared(0, 1, 5, 5));
    }

    private static void smallIsBelow() {
        Checks.part("SMALL, if DECLARED of all SORTS together are below least");
        for (int least : new int[] {0, 1, 2, 9998, 9999}) {
            for (int kilos = Math.max(0, least - 1); kilos <= least + 1; kilos++) {
                PacketLaw x = makers(1);
                Checks.law(x, 0, "least " + least + ";");
                int many = kilos;
                // all in the last sort, and spread over all sorts
                x.declare(0, 4, 0, many);
                Checks.dueTruth(many + " of least " + least, many < least, () -> x.small(0, 0, 0));
                x.declare(0, 4, 0, many - many / 5 * 4);
                for (int sort = 0; sort < 4; sort++) {
                    x.declare(0, sort, 0, many / 5);
                }
                Checks.dueTruth(many + " of all sorts, of least " + least, many < least, () -> x.small(0, 0, 0));
            }
        }
        PacketLaw y = makers(1);
        Checks.law(y, 0, "least 9999;");
        for (int sort = 0; sort < 5; sort++) {
            y.declare(0, sort, 0, 10000000);
        }
        Checks.dueTruth("the most of all sorts", false, () -> y.small(0, 0, 0));
        y.years(1);
        for (int sort = 0; sort < 5; sort++) {
            y.declare(0, sort, 0, 0);
        }
        Checks.dueTruth("as known in 1", true, () -> y.small(0, 0, 1));
        Checks.dueTruth("as known in 0", false, () -> y.small(0, 0, 0));
        Checks.dueTruth("as known before all", true, () -> y.small(0, 0, -1));
        Checks.dueTruth("another year has its own", true, () -> y.small(0, 1, 0));
    }

    private static void noFeeIfSmall() {
        Checks.part("FEE: 0, if SMALL");
        PacketLaw x = makers(1);
        Checks.law(x, 0, "least 1000;fee paper=5000;");
        x.declare(0, 0, 0, 999);
        Checks.due("999", 0, () -> x.fee(0, 0, 0));
        x.declare(0, 0, 0, 1000);
        Checks.due("1000", 5000, () -> x.fee(0, 0, 0));
        x.declare(0, 0, 0, 999);
        x.declare(0, 1, 0, 1);
        Checks.due("999 and 1: 4995 and 0.1", 4995, () -> x.fee(0, 0, 0));
        Checks.due("nothing at all", 0, () -> x.fee(0, 0, -1));
    }

    private static void valueBounds() {
        Checks.part("the VALUE of fee (0 to 100,000: less is 0, more 100,000)");
        String[] sums = {"0-1", "0", "1", "9999*10+9", "9999*10+10", "9999*10+11", "0-9999*9999", "9999*9999"};
        int[] want = {0, 0, 1, 99999, 100000, 100000, 0, 100000};
        for (int i = 0; i < sums.length; i++) {
            for (int sort = 0; sort < 5; sort++) {
                String name = new String[] {"paper", "glass", "tin", "film", "mixed"}[sort];
                PacketLaw x = makers(1);
                x.declare(0, sort, 0, 1000);
                Checks.law(x, 0, "fee " + name + "=" + sums[i] + ";");
                Checks.due(name + " at " + sums[i], want[i], () -> x.fee(0, 0, 0));
            }
        }
        PacketLaw y = makers(1);
        y.declare(0, 0, 0, 1000);
        y.declare(0, 1, 0, 1000);
        Checks.law(y, 0, "fee paper=0-50;fee glass=60;");
        Checks.due("one below 0 takes nothing from another", 60, () -> y.fee(0, 0, 0));
    }

    private static void feeIsCut() {
        Checks.part("for each SORT: DECLARED times the VALUE, by 1,000, cut; all together");
        PacketLaw x = makers(1);
        int[] kilos = {999, 1000, 1001, 1999, 2000};
        long[] want = {0, 1, 1, 1, 2};
        Checks.law(x, 0, "fee paper=1;fee glass=1;fee tin=1;fee film=1;fee mixed=1;");
        for (int i = 0; i < kilos.length; i++) {
            int many = kilos[i];
            x.declare(0, 3, 0, many);
            Checks.due(many + " by 1000", want[i], () -> x.fee(0, 0, 0));
        }
        for (int sort = 0; sort < 5; sort++) {
            x.declare(0, sort, 0, 999);
        }
        Checks.due("five times 0.999", 0, () -> x.fee(0, 0, 0));
        PacketLaw y = makers(1);
        Checks.law(y, 0, "fee tin=9999*11;");
        y.declare(0, 2, 0, 1);
        Checks.due("one kilogram at the highest", 100, () -> y.fee(0, 0, 0));
        y.declare(0, 1, 0, 10);
        Checks.due("ten more without a law", 101, () -> y.fee(0, 0, 0));
        for (int sort = 0; sort < 5; sort++) {
            x.declare(0, sort, 0, 10000000);
        }
        Checks.due("five times 10,000", 50000, () -> x.fee(0, 0, 0));
        Checks.law(x, 0, "fee paper=9999*11;fee glass=9999*11;fee tin=9999*11;fee film=9999*11;fee mixed=9999*11;");
        Checks.due("the most there can be", 5000000000L, () -> x.fee(0, 0, 0));
        Checks.due("billed", 5000000000L, () -> x.bill(0, 0));
        x.declare(0, 0, 0, 0);
        Checks.due("less, billed", -1000000000L, () -> x.bill(0, 0));
        Checks.law(x, 0, "fee glass=0;fee tin=0;fee film=0;fee mixed=0;");
        Checks.due("all of it back", -4000000000L, () -> x.bill(0, 0));
    }

    private static void feeByTheFirstYear() {
        Checks.part("FEE for a YEAR as KNOWN in another one, by LAWS IN FORCE in the first");
        PacketLaw x = makers(1);
        Checks.law(x, 0, "fee paper=10;");
        Checks.law(x, 2, "fee paper=20;");
        Checks.law(x, 3, "fee paper=30;least 5000;");
        x.declare(0, 0, 0, 1000);
        x.years(2);
        x.declare(0, 0, 0, 2000);
        x.declare(0, 0, 2, 3000);
        x.years(2);
        x.declare(0, 0, 2, 4000);
        x.declare(0, 0, 3, 5000);
        x.declare(0, 0, 4, 4999);
        Checks.due("0 as known in 0", 10, () -> x.fee(0, 0, 0));
        Checks.due("0 as known in 1", 10, () -> x.fee(0, 0, 1));
        Checks.due("0 as known in 2", 20, () -> x.fee(0, 0, 2));
        Checks.due("0 as known in 3, whatever is in force there", 20, () -> x.fee(0, 0, 3));
        Checks.due("2 as known in 1", 0, () -> x.fee(0, 2, 1));
        Checks.due("2 as known in 2", 60, () -> x.fee(0, 2, 2));
        Checks.due("2 as known in 4", 80, () -> x.fee(0, 2, 4));
        Checks.due("3 as known in 4", 150, () -> x.fee(0, 3, 4));
        Checks.due("4: small", 0, () -> x.fee(0, 4, 4));
    }

    private static void factYear() {
        Checks.part("year: the first one");
        PacketLaw x = makers(1);
        Checks.law(x, 0, "fee paper=year+1;");
        x.years(40);
        x.declare(0, 0, 0, 1000);
        x.declare(0, 0, 7, 1000);
        x.declare(0, 0, 40, 1000);
        Checks.due("0", 1, () -> x.fee(0, 0, 40));
        Checks.due("7", 8, () -> x.fee(0, 7, 40));
        Checks.due("40", 41, () -> x.fee(0, 40, 40));
        Checks.due("7, billed", 8, () -> x.bill(0, 7));
        Checks.due("7, tried", 70, () -> Checks.tried(x, 0, 7, "fee paper=year*10;"));
    }

    private static void factKilos() {
        Checks.part("kilos: DECLARED");
        PacketLaw x = makers(2);
        x.packet(0);
        x.make(0, 200, 200, 0, 0, 0, 0);
        x.sold(0, 0, 1000, 0, 1);
        Checks.law(x, 0, "fee paper=kilos;fee glass=kilos-1000;");
        x.declare(0, 0, 0, 100);
        x.declare(1, 0, 0, 5000);
        Checks.due("of that maker: 100 by 100", 10, () -> x.fee(0, 0, 0));
        x.declare(0, 1, 0, 3000);
        Checks.due("of that sort: and 3000 by 2000", 6010, () -> x.fee(0, 0, 0));
        x.declare(0, 1, 0, 999);
        Checks.due("below 0 is 0", 10, () -> x.fee(0, 0, 0));
    }

    private static void factShare() {
        Checks.part("share: DECLARED times 100 by those of all MAKERS of that SORT, cut (0 without any)");
        PacketLaw x = makers(10);
        Checks.law(x, 0, "fee paper=share+1;fee glass=0;");
        x.declare(0, 0, 0, 1000);
        Checks.due("alone: 100", 101, () -> x.fee(0, 0, 0));
        x.declare(9, 0, 0, 1);
        Checks.due("1000 of 1001: 99.9", 100, () -> x.fee(0, 0, 0));
        x.declare(9, 0, 0, 99000);
        Checks.due("1000 of 100,000: 1", 2, () -> x.fee(0, 0, 0));
        x.declare(9, 0, 0, 99001);
        Checks.due("1000 of 100,001: 0.99", 1, () -> x.fee(0, 0, 0));
        x.declare(9, 0, 0, 0);
        x.declare(9, 1, 0, 5000);
        Checks.due("another sort's don't count", 101, () -> x.fee(0, 0, 0));
        for (int m = 0; m < 10; m++) {
            x.declare(m, 0, 0, 10000000);
        }
        Checks.due("ten of the most: 10", 110000, () -> x.fee(9, 0, 0));
        Checks.law(x, 0, "least 9999;");
        x.declare(9, 0, 0, 9998);
        x.declare(9, 1, 0, 0);
        Checks.dueTruth("one is small", true, () -> x.small(9, 0, 0));
        // 10,000,000 of 90,009,998: 11.1
        Checks.due("small ones count among all", 120000, () -> x.fee(0, 0, 0));
        PacketLaw z = makers(3);
        z.scheme();
        z.join(0, 0, 0);
        z.declare(0, 0, 0, 3000);
        z.declare(0, 3, 0, 1000);
        z.declare(1, 0, 0, 1000);
        z.declare(2, 3, 0, 3000);
        Checks.law(z, 0, "fee paper=share;fee film=share;least 2000;");
        // 75 by 3000 and 25 by 1000
        Checks.due("each sort by itself, small ones and those in no scheme among all", 225 + 25, () -> z.fee(0, 0, 0));
        Checks.due("the last", 225, () -> z.fee(2, 0, 0));
        PacketLaw y = makers(2);
        y.declare(1, 0, 0, 1000);
        Checks.law(y, 0, "fee paper=100-share;");
        Checks.due("without any", 0, () -> y.fee(0, 0, 0));
        y.years(1);
        y.declare(0, 0, 0, 1000);
        Checks.due("as known in 1: 50", 50, () -> y.fee(1, 0, 1));
        Checks.due("as known in 0: 100", 0, () -> y.fee(1, 0, 0));
    }

    private static void factGramsAndLayers() {
        Checks.part("grams: those of that SORT in the MAKER's PACKETS, as they are made, together; layers: the most of these");
        PacketLaw x = makers(2);
        x.declare(0, 0, 0, 1000);
        x.declare(0, 1, 0, 1000);
        Checks.law(x, 0, "fee paper=grams*10+layers;fee glass=0;");
        Checks.due("without packets", 0, () -> x.fee(0, 0, 0));
        x.packet(0);
        Checks.due("without makes", 0, () -> x.fee(0, 0, 0));
        x.make(0, 200, 0, 0, 0, 0, 0);
        Checks.due("one packet, nothing sold", 2001, () -> x.fee(0, 0, 0));
        x.make(0, 5, 1, 1, 1, 1, 0);
        Checks.due("not as it is made", 2001, () -> x.fee(0, 0, 0));
        x.made(0, 1);
        Checks.due("as it is made", 55, () -> x.fee(0, 0, 0));
        for (int p = 1; p < 20; p++) {
            x.packet(p == 19 ? 1 : 0);
            x.make(p, p == 18 ? 0 : 200, 0, p == 18 ? 1 : 0, 0, 0, 0);
        }
        // packets 1 to 17 have 200 grams each, 18 none of paper, 19 is another's
        Checks.due("nineteen packets", 34055, () -> x.fee(0, 0, 0));
        x.made(0, 0);
        Checks.due("the most layers are 1 then", 36001, () -> x.fee(0, 0, 0));
        x.declare(1, 0, 0, 1000);
        Checks.due("another maker's", 2001, () -> x.fee(1, 0, 0));
        Checks.law(x, 0, "fee paper=0;fee glass=grams+layers;");
        x.made(0, 1);
        Checks.due("of glass: 1, and 5 layers", 6, () -> x.fee(0, 0, 0));
    }

    private static void billedBefore() {
        Checks.part("BILLED is FEE as KNOWN now, less what was BILLED for it before (it may be below 0)");
        PacketLaw x = makers(2);
        Checks.due("nothing", 0, () -> x.bill(0, 0));
        x.declare(0, 0, 0, 3000);
        Checks.due("300", 300, () -> x.bill(0, 0));
        Checks.due("the fee is the whole still", 300, () -> x.fee(0, 0, 0));
        x.declare(0, 0, 0, 1000);
        x.declare(0, 0, 0, 3000);
        Checks.due("there and back", 0, () -> x.bill(0, 0));
        x.declare(0, 0, 0, 1000);
        Checks.due("down", -200, () -> x.bill(0, 0));
        x.declare(0, 0, 0, 0);
        Checks.due("to nothing", -100, () -> x.bill(0, 0));
        Checks.due("and no further", 0, () -> x.bill(0, 0));
        x.years(1);
        x.declare(0, 0, 0, 5000);
        x.declare(0, 0, 1, 7000);
        x.declare(1, 0, 0, 9000);
        Checks.due("another year is billed by itself", 700, () -> x.bill(0, 1));
        Checks.due("another maker is billed by itself", 900, () -> x.bill(1, 0));
        Checks.due("billed already, that year", 0, () -> x.bill(0, 1));
        Checks.due("billed already, that maker", 0, () -> x.bill(1, 0));
        Checks.due("as known now", 500, () -> x.bill(0, 0));
        Checks.law(x, 0, "fee paper=200;");
        Checks.due("by another law", 500, () -> x.bill(0, 0));
        Checks.law(x, 0, "least 5001;");
        Checks.due("small now", -1000, () -> x.bill(0, 0));
        Checks.due("tried bills nothing", 1000, () -> Checks.tried(x, 0, 0, "least 0;"));
        Checks.due("so nothing more", 0, () -> x.bill(0, 0));
        Checks.due("the last year", 0, () -> x.bill(0, 40));
    }

    private static void bannedByGrams() {
        Checks.part("BANNED is a MAKE in a YEAR, if for a SORT of which it has grams a ban holds");
        PacketLaw x = makers(1);
        x.packet(0);
        x.make(0, 1, 0, 0, 0, 0, 0);
        x.make(0, 0, 0, 0, 0, 200, 0);
        x.make(0, 0, 0, 0, 0, 0, 0);
        x.make(0, 1, 1, 1, 1, 1, 0);
        Checks.law(x, 0, "ban mixed;");
        boolean[] want = {false, true, false, true};
        for (int make = 0; make < 4; make++) {
            int m = make;
            Checks.dueTruth("make " + m, want[m], () -> x.banned(0, m, 0));
        }
        Checks.law(x, 1, "ban paper;ban glass;ban tin;ban film;");
        Checks.dueTruth("one gram is enough", true, () -> x.banned(0, 0, 1));
        Checks.dueTruth("not the year before", false, () -> x.banned(0, 0, 0));
        Checks.dueTruth("without grams of any", false, () -> x.banned(0, 2, 40));
        Checks.dueThrowOfTruth("no fifth make", IllegalArgumentException.class, () -> x.banned(0, 4, 0));
        Checks.due("a banned one can be made still", 0, () -> x.made(0, 1));
        Checks.due("a banned one has kilos still", 0, () -> x.kilos(0, 4, 0));
    }

    private static void bannedFacts() {
        Checks.part("grams: of that SORT; layers: its own; kilos, share: 0; year");
        PacketLaw x = makers(1);
        x.packet(0);
        x.packet(0);
        x.make(0, 10, 20, 0, 0, 0, 0);
        x.make(0, 30, 0, 0, 0, 0, 0);
        x.make(1, 40, 1, 1, 1, 0, 0);
        x.sold(0, 0, 100, 0, 1);
        x.declare(0, 0, 0, 1000);
        Checks.law(x, 0, "ban paper if grams=10;");
        Checks.law(x, 1, "ban paper if layers=1;");
        Checks.law(x, 2, "ban glass if grams=1 and layers=4 and year>1 and year<4;");
        Checks.law(x, 3, "ban paper if kilos>0 or share>0 or kilos<0 or share<0;");
        Checks.law(x, 3, "ban glass if grams=10 or grams=30;");
        Checks.dueTruth("grams of paper", true, () -> x.banned(0, 0, 0));
        Checks.dueTruth("its own grams", false, () -> x.banned(0, 1, 0));
        Checks.dueTruth("its own layers", true, () -> x.banned(0, 1, 1));
        Checks.dueTruth("not as the packet is made: 4", false, () -> x.banned(1, 0, 1));
        Checks.dueTruth("in 2", true, () -> x.banned(1, 0, 2));
        Checks.dueTruth("in 3", true, () -> x.banned(1, 0, 3));
        Checks.dueTruth("in 4", false, () -> x.banned(1, 0, 4));
        x.made(0, 1);
        Checks.dueTruth("whatever is made", true, () -> x.banned(0, 0, 0));
        Checks.dueTruth("kilos and share are 0", false, () -> x.banned(1, 0, 40));
    }

    private static void cheapestRow() {
        Checks.part("CHEAPEST: the least of COST times SOLD (the first five alone), and FEE");
        PacketLaw x = makers(1);
        x.packet(0);
        x.make(0, 0, 0, 0, 0, 0, 3);
        x.make(0, 10, 0, 0, 0, 0, 2);
        x.make(0, 5, 0, 0, 0, 0, 2);
        x.sold(0, 0, 1000, 0, 1);
        // 3000; 2000 and 10,000 kilograms: 1000; 2000 and 5000: 500
        Checks.due("cost and fee", 2500, () -> x.cheapest(0, 0, -1));
        Checks.due("the make", 2, () -> x.cheapest(0, 0, 0));
        Checks.law(x, 0, "fee paper=200;");
        // 3000; 2000 and 2000; 2000 and 1000
        Checks.due("alike: the first", 3000, () -> x.cheapest(0, 0, -1));
        Checks.due("the make", 0, () -> x.cheapest(0, 0, 0));
        Checks.law(x, 0, "fee paper=199;");
        Checks.due("less by 5", 2995, () -> x.cheapest(0, 0, -1));
        Checks.due("the make", 2, () -> x.cheapest(0, 0, 0));
        Checks.law(x, 0, "ban paper if grams<6;");
        Checks.due("it is banned", 0, () -> x.cheapest(0, 0, 0));
        x.sold(0, 1, 0, 0, 1);
        Checks.due("nothing sold costs nothing", 0, () -> x.cheapest(0, 1, -1));
        Checks.due("nothing is made otherwise", 0, () -> x.made(0, 0));
    }

    private static void cheapestFee() {
        Checks.part("what FEE would be if DECLARED were TRUE KILOS with these MAKES (all other MAKERS as DECLARED now)");
        PacketLaw x = makers(2);
        x.packet(0);
        x.make(0, 10, 0, 0, 0, 0, 0);
        x.make(0, 20, 0, 0, 0, 0, 0);
        x.sold(0, 0, 100, 0, 1);
        x.declare(0, 0, 0, 10000000);
        x.declare(0, 1, 0, 10000000);
        Checks.due("what it declared does not count", 100, () -> x.cheapest(0, 0, -1));
        Checks.law(x, 0, "fee paper=100-share;");
        Checks.due("alone", 0, () -> x.cheapest(0, 0, -1));
        Checks.due("alike", 0, () -> x.cheapest(0, 0, 0));
        x.declare(1, 0, 0, 1000);
        // 1000 of 2000: 50 of 1000; 2000 of 3000: 66, 34 by 2000
        Checks.due("with another's", 50, () -> x.cheapest(0, 0, -1));
        x.years(1);
        x.declare(1, 0, 0, 18000);
        // 1000 of 19000: 5; 2000 of 20000: 10
        Checks.due("as declared now: 95 of 1000", 95, () -> x.cheapest(0, 0, -1));
        Checks.law(x, 0, "fee paper=kilos/100;");
        Checks.due("kilos: true ones", 10, () -> x.cheapest(0, 0, -1));
        Checks.law(x, 0, "fee paper=500-grams*20;");
        Checks.due("grams by these makes: 1000 by 300, 2000 by 100", 200, () -> x.cheapest(0, 0, -1));
        Checks.due("the second", 1, () -> x.cheapest(0, 0, 0));
        Checks.law(x, 0, "least 2000;fee paper=500;");
        Checks.due("small with the first: no fee", 0, () -> x.cheapest(0, 0, -1));
        Checks.due("the first", 0, () -> x.cheapest(0, 0, 0));
        Checks.law(x, 0, "least 1000;");
        Checks.due("not small with 1000", 500, () -> x.cheapest(0, 0, -1));
        Checks.law(x, 0, "least 0;off paper 50;trips 2;fee paper=100;");
        x.sold(0, 0, 100, 100, 2);
        Checks.due("true kilos: off and trips", 25, () -> x.cheapest(0, 0, -1));
        Checks.due("of another year: nothing sold", 0, () -> x.cheapest(0, 1, -1));
    }

    private static void cheapestOthers() {
        Checks.part("CHEAPEST: the first five by number (others as they are made)");
        PacketLaw x = makers(2);
        x.packet(1);
        for (int p = 1; p <= 6; p++) {
            x.packet(0);
            x.make(p, 10, 0, 0, 0, 0, 100);
            x.make(p, 9, 0, 0, 0, 0, 100);
            x.sold(p, 0, 10, 0, 1);
        }
        // five times 90 kilograms and one of 100; five times 1000 coins
        Checks.due("the sixth stays as it is made", 5055, () -> x.cheapest(0, 0, -1));
        for (int k = 0; k < 5; k++) {
            int packet = k;
            Checks.due("packet " + k, 1, () -> x.cheapest(0, 0, packet));
        }
        x.made(6, 1);
        Checks.due("the sixth as it is made", 5054, () -> x.cheapest(0, 0, -1));
        x.made(1, 1);
        Checks.due("how the first five are made does not count", 5054, () -> x.cheapest(0, 0, -1));
        x.make(6, 200, 0, 0, 0, 0, 0);
        x.made(6, 2);
        Checks.due("its cost does not count", 5245, () -> x.cheapest(0, 0, -1));
        Checks.due("another maker's packet, without makes", -1, () -> x.cheapest(1, 0, -1));
        x.make(0, 0, 0, 0, 0, 0, 5);
        x.sold(0, 0, 3, 0, 1);
        Checks.due("another maker's packet", 15, () -> x.cheapest(1, 0, -1));
    }

    private static void cheapestSeven() {
        Checks.part("CHEAPEST: the others' kilograms, grams and layers, as they are made, all of them");
        PacketLaw x = makers(2);
        for (int p = 0; p < 8; p++) {
            x.packet(0);
            x.make(p, 1, 0, 0, 0, 0, 0);
            x.make(p, 1, 1, 1, 1, 1, 0);
            x.sold(p, 0, p < 5 ? 0 : 1000, 0, 1);
        }
        // nothing is sold of the first five: three others have 1000 kilograms of paper each
        Checks.due("kilograms of all others", 300, () -> x.cheapest(0, 0, -1));
        Checks.law(x, 0, "fee paper=grams*100;fee glass=0;fee tin=0;fee film=0;fee mixed=0;");
        Checks.due("grams of all eight", 2400, () -> x.cheapest(0, 0, -1));
        Checks.law(x, 0, "fee paper=layers*100;");
        Checks.due("layers of these makes: 1", 300, () -> x.cheapest(0, 0, -1));
        for (int other = 5; other < 8; other++) {
            x.made(other, 1);
            Checks.due("layers of one of the others: 5", 1500, () -> x.cheapest(0, 0, -1));
            x.made(other, 0);
        }
        x.made(0, 1);
        Checks.due("not as the first five are made", 300, () -> x.cheapest(0, 0, -1));
        Checks.law(x, 1, "ban paper if layers=1;");
        for (int p = 0; p < 5; p++) {
            int packet = p;
            Checks.due("all are banned but those of five layers: packet " + p, 1, () -> x.cheapest(0, 1, packet));
        }
        x.made(5, 1);
        x.made(6, 1);
        x.made(7, 1);
        x.packet(1);
        x.make(8, 1, 0, 0, 0, 0, 0);
        x.sold(8, 0, 1000, 0, 1);
        Checks.due("the other maker, asked behind: 1 layer", 100, () -> x.cheapest(1, 0, -1));
        Checks.law(x, 0, "fee paper=grams*100;");
        Checks.due("the other maker's grams", 100, () -> x.cheapest(1, 0, -1));
    }

    private static void cheapestLayers() {
        Checks.part("CHEAPEST: grams, layers by these MAKES");
        PacketLaw x = makers(1);
        x.packet(0);
        x.packet(0);
        x.make(0, 100, 1, 1, 0, 0, 0);
        x.make(0, 100, 1, 0, 0, 0, 0);
        x.make(1, 100, 1, 1, 0, 0, 0);
        x.make(1, 100, 0, 0, 0, 0, 0);
        x.sold(0, 0, 10, 0, 1);
        x.sold(1, 0, 10, 0, 1);
        Checks.law(x, 0, "fee paper=layers*100;fee glass=0;fee tin=0;");
        Checks.due("2000 kilograms, two layers at most", 400, () -> x.cheapest(0, 0, -1));
        Checks.due("the first packet's second make", 1, () -> x.cheapest(0, 0, 0));
        Checks.due("the second packet's second make", 1, () -> x.cheapest(0, 0, 1));
        Checks.law(x, 0, "fee paper=500-layers*100;");
        Checks.due("the most: three", 400, () -> x.cheapest(0, 0, -1));
        Checks.due("the first packet's first make", 0, () -> x.cheapest(0, 0, 0));
        Checks.due("is enough: the second packet's first too", 0, () -> x.cheapest(0, 0, 1));
        Checks.law(x, 0, "fee paper=0;fee glass=100;fee tin=grams*9999;");
        Checks.due("tin by its grams", 1, () -> x.cheapest(0, 0, 0));
        Checks.due("and glass", 1, () -> x.cheapest(0, 0, 1));
    }

    private static void cheapestCostOfAllSold() {
        Checks.part("CHEAPEST: COST times SOLD of these PACKETS, those sold ABROAD too");
        PacketLaw x = makers(1);
        x.packet(0);
        x.packet(0);
        x.make(0, 0, 0, 0, 0, 0, 7);
        x.make(1, 0, 0, 0, 0, 0, 100);
        Checks.law(x, 0, "trips 50;");
        x.sold(0, 0, 90, 90, 50);
        x.sold(1, 0, 3, 1, 2);
        Checks.due("90 times 7, 3 times 100", 930, () -> x.cheapest(0, 0, -1));
    }

    private static void cheapestInItsYear() {
        Checks.part("CHEAPEST in a YEAR: laws, bans, what is sold and declared, as of that YEAR");
        PacketLaw x = makers(3);
        for (int p = 0; p < 7; p++) {
            x.packet(p == 0 ? 0 : 1);
            x.make(p, 10, 0, 0, 0, 0, 0);
            x.make(p, 10, 0, 0, 0, 0, 0);
            x.sold(p, 0, 100 + p, 0, 1);
            x.sold(p, 2, p == 6 ? 700 : 60, 0, 1);
            x.sold(p, 5, 500 + p, 0, 1);
        }
        x.declare(2, 0, 0, 70000);
        x.years(5);
        x.declare(2, 0, 2, 10000);
        x.declare(1, 0, 2, 90000);
        x.declare(0, 0, 2, 30000);
        x.declare(2, 0, 5, 80000);
        Checks.law(x, 0, "fee paper=1;");
        Checks.law(x, 2, "fee paper=year;");
        Checks.law(x, 5, "fee paper=3;least 9999;");
        // five times 600 kilograms and one of 7000
        Checks.due("the fee of that year's law, by that year", 20, () -> x.cheapest(1, 2, -1));
        Checks.due("of the year before: nothing sold", 0, () -> x.cheapest(1, 1, -1));
        Checks.law(x, 2, "fee paper=share;");
        // 10000 of 10000, 10000 and 30000
        Checks.due("what others declared for that year", 200, () -> x.cheapest(1, 2, -1));
        Checks.law(x, 3, "fee paper=0;ban paper;");
        Checks.due("a law of a later year", 200, () -> x.cheapest(1, 2, -1));
        Checks.due("a ban of a later year", 0, () -> x.cheapest(1, 2, 4));
        Checks.due("in that one all are banned", -1, () -> x.cheapest(1, 3, -1));
        Checks.law(x, 2, "least 9999;");
        Checks.due("not small by true kilos", 200, () -> x.cheapest(1, 2, -1));
        Checks.due("small by true kilos, whatever is declared: 600", 0, () -> x.cheapest(0, 2, -1));
        x.declare(1, 0, 2, 0);
        Checks.due("small by what is declared, not by true kilos", 200, () -> x.cheapest(1, 2, -1));
        x.declare(1, 0, 2, 9998);
        Checks.dueTruth("small", true, () -> x.small(1, 2, 5));
        Checks.due("its own declared ones are not among all", 200, () -> x.cheapest(1, 2, -1));
    }

    private static void cheapestGramsBySort() {
        Checks.part("CHEAPEST: grams of that SORT, of the first five and of the others");
        String[] names = {"paper", "glass", "tin", "film", "mixed"};
        String none = "fee paper=0;fee glass=0;fee tin=0;fee film=0;fee mixed=0;";
        for (int sort = 0; sort < 5; sort++) {
            PacketLaw z = makers(1);
            for (int p = 0; p < 6; p++) {
                z.packet(0);
                z.make(p, sort == 0 ? 1 : 0, sort == 1 ? 1 : 0, sort == 2 ? 1 : 0, sort == 3 ? 1 : 0, sort == 4 ? 1 : 0, 0);
            }
            z.sold(5, 0, 1000, 0, 1);
            Checks.due("kilograms of the sixth alone, of " + names[sort], 100, () -> z.cheapest(0, 0, -1));
            Checks.due("asked again", 100, () -> z.cheapest(0, 0, -1));
            PacketLaw y = makers(1);
            for (int p = 0; p < 7; p++) {
                y.packet(0);
                y.make(p, sort == 0 ? 3 : 50, sort == 1 ? 3 : 50, sort == 2 ? 3 : 50, sort == 3 ? 3 : 50, sort == 4 ? 3 : 50, 0);
            }
            y.sold(0, 0, 1000, 0, 1);
            Checks.law(y, 0, none + "fee " + names[sort] + "=grams;");
            // 3000 kilograms by 21 grams
            Checks.due("grams of seven packets, of " + names[sort], 63, () -> y.cheapest(0, 0, -1));
            Checks.due("asked again", 63, () -> y.cheapest(0, 0, -1));
        }
        PacketLaw x = makers(1);
        for (int p = 0; p < 7; p++) {
            x.packet(0);
            x.make(p, 1, 2, 3, 4, 5, 0);
            x.make(p, 5, 4, 3, 2, 1, 0);
        }
        x.make(6, 100, 90, 80, 70, 60, 0);
        x.sold(0, 0, 1000, 0, 1);
        Checks.law(x, 0, none + "fee mixed=grams;");
        // 1000 kilograms by 15 grams: five times 1 by the second makes, twice 5 by the first
        Checks.due("mixed: the second makes of five", 15, () -> x.cheapest(0, 0, -1));
        for (int k = 0; k < 5; k++) {
            int packet = k;
            Checks.due("packet " + k, 1, () -> x.cheapest(0, 0, packet));
        }
        x.made(6, 2);
        Checks.due("60 instead of 5", 70, () -> x.cheapest(0, 0, -1));
        x.made(6, 0);
        Checks.due("and back", 15, () -> x.cheapest(0, 0, -1));
        Checks.law(x, 0, "fee mixed=0;fee film=grams;");
        // five times 2 grams, twice 4, by 2000 kilograms
        Checks.due("film", 36, () -> x.cheapest(0, 0, -1));
    }

    private static void cheapestMakesNothing() {
        Checks.part("CHEAPEST is asked: no PACKET is made otherwise");
        PacketLaw x = makers(1);
        for (int p = 0; p < 6; p++) {
            x.packet(0);
            x.make(p, 9, 0, 0, 0, 0, 9);
            x.make(p, 8, 0, 0, 0, 0, 8);
            x.make(p, 0, 0, 0, 0, 0, 0);
            x.sold(p, 0, 1, 0, 1);
        }
        x.made(1, 1);
        Checks.due("for nothing but the sixth's fee", 0, () -> x.cheapest(0, 0, -1));
        Checks.due("by the last makes", 2, () -> x.cheapest(0, 0, 1));
        Checks.due("true kilos are as before", 53, () -> x.truly(0, 0, 0));
        int[] made = {0, 1, 0, 0, 0, 0};
        for (int p = 0; p < 6; p++) {
            int packet = p;
            Checks.due("packet " + p, made[p], () -> x.made(packet, 0));
        }
    }

    private static void cheapestFirst() {
        Checks.part("of these the first, PACKET by PACKET by MAKES");
        PacketLaw x = makers(1);
        for (int p = 0; p < 5; p++) {
            x.packet(0);
            x.make(p, 0, 0, 0, 0, 0, p == 2 ? 9 : 7);
            x.make(p, 0, 0, 0, 0, 0, p == 4 ? 6 : 7);
            x.make(p, 0, 0, 0, 0, 0, p == 2 ? 8 : 7);
            x.make(p, 0, 0, 0, 0, 0, p == 2 ? 8 : 7);
            x.sold(p, 0, 10, 0, 1);
        }
        Checks.law(x, 0, "fee paper=0;");
        int[] want = {0, 0, 1, 0, 1};
        x.make(1, 0, 0, 0, 0, 0, 7);
        Checks.due("the coins", 340, () -> x.cheapest(0, 0, -1));
        for (int k = 0; k < 5; k++) {
            int packet = k;
            Checks.due("packet " + k, want[k], () -> x.cheapest(0, 0, packet));
        }
        // two rows are alike: the first packet's make 0 with the second's make 1, or the other way round
        PacketLaw y = makers(1);
        for (int p = 0; p < 2; p++) {
            y.packet(0);
            y.make(p, 10, 0, 0, 0, 0, 0);
            y.make(p, 0, 10, 0, 0, 0, 0);
            y.sold(p, 0, 100, 0, 1);
        }
        Checks.law(y, 0, "fee paper=kilos;fee glass=kilos;");
        Checks.due("the coins", 2000, () -> y.cheapest(0, 0, -1));
        Checks.due("the first packet's make 0", 0, () -> y.cheapest(0, 0, 0));
        Checks.due("the second packet's make 1", 1, () -> y.cheapest(0, 0, 1));
    }

    private static void cheapestNone() {
        Checks.part("None, if there is no such row: also, if one of these five has no MAKES");
        PacketLaw x = makers(2);
        for (int k = 0; k < 5; k++) {
            int packet = k;
            Checks.due("without packets, " + k, -1, () -> x.cheapest(0, 0, packet));
        }
        Checks.due("without packets", 0, () -> x.cheapest(0, 0, -1));
        for (int p = 0; p < 5; p++) {
            int packet = p;
            x.packet(0);
            Checks.due(p + " without makes", -1, () -> x.cheapest(0, 0, -1));
            Checks.due(p + " without makes, the first", -1, () -> x.cheapest(0, 0, 0));
            x.make(p, 1, 0, 0, 0, 0, 1);
            Checks.due(p + " with a make", 0, () -> x.cheapest(0, 0, -1));
            Checks.due(p + " with a make, itself", 0, () -> x.cheapest(0, 0, packet));
            if (p < 4) {
                Checks.due("the next one", -1, () -> x.cheapest(0, 0, packet + 1));
            }
        }
        x.packet(0);
        Checks.due("the sixth may be without makes", 0, () -> x.cheapest(0, 0, -1));
        Checks.law(x, 1, "ban paper;");
        Checks.due("all are banned", -1, () -> x.cheapest(0, 1, -1));
        Checks.due("all are banned, the first", -1, () -> x.cheapest(0, 1, 0));
        for (int p = 0; p < 4; p++) {
            x.make(p, 0, 1, 0, 0, 0, 1);
        }
        Checks.due("those of one packet are banned", -1, () -> x.cheapest(0, 1, -1));
        Checks.due("those of one packet are banned, the first", -1, () -> x.cheapest(0, 1, 0));
        x.make(4, 0, 1, 0, 0, 0, 1);
        Checks.due("none is banned", 0, () -> x.cheapest(0, 1, -1));
        Checks.due("the last one's second make", 1, () -> x.cheapest(0, 1, 4));
        Checks.due("the maker without packets", 0, () -> x.cheapest(1, 1, -1));
        Checks.due("the maker without packets, its first", -1, () -> x.cheapest(1, 1, 0));
    }

    private static void cheapestFiveOfFive() {
        Checks.part("CHEAPEST of all rows there can be");
        PacketLaw x = makers(1);
        for (int p = 0; p < 5; p++) {
            x.packet(0);
            for (int make = 0; make < 5; make++) {
                x.make(p, 200 - 20 * make, 20 * make, 0, 0, 0, make == 4 ? 999 : 1000);
            }
            x.sold(p, 0, 1000, 0, 1);
        }
        Checks.law(x, 0, "fee paper=0;fee glass=0;");
        Checks.due("the last of all", 4995000, () -> x.cheapest(0, 0, -1));
        for (int k = 0; k < 5; k++) {
            int packet = k;
            Checks.due("packet " + k, 4, () -> x.cheapest(0, 0, packet));
        }
        Checks.law(x, 0, "fee paper=9999*11;fee glass=9999*11;");
        // 200,000 kilograms each, at 100 a kilogram
        Checks.due("above 32 bits", 104995000L, () -> x.cheapest(0, 0, -1));
        Checks.law(x, 0, "ban glass;");
        Checks.due("only the first of each is left", 105000000L, () -> x.cheapest(0, 0, -1));
        Checks.due("packet 4", 0, () -> x.cheapest(0, 0, 4));
    }
}
