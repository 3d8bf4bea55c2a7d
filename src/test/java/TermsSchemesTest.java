/** The document's terms, part 3, sentence by sentence: schemes, who is in them, weights, what they are bound to, orphans. */
public final class TermsSchemesTest {
    private TermsSchemesTest() {
    }

    public static void main(String[] args) {
        inNoneAtFirst();
        latestYearNotBehind();
        toldLast();
        weightOfThoseIn();
        weightWithoutSmallOnes();
        weightAsKnown();
        boundToHundredths();
        boundWithoutSmallOnes();
        boundInItsYear();
        boundWithOrphans();
        orphansToldAnew();
        partedByWeights();
        greatestRests();
        nobodyHasAny();
        orphansByMakers();
        orphansBySchemes();
        moreSchemesThanMakers();
        fewerSchemesThanMakers();
        orphansAsKnown();
        greatestAmounts();
        Checks.end();
    }

    private static PacketLaw world(int makers, int schemes) {
        PacketLaw x = new PacketLaw();
        for (int i = 0; i < makers; i++) {
            x.maker();
        }
        for (int i = 0; i < schemes; i++) {
            x.scheme();
        }
        return x;
    }

    private static void inNoneAtFirst() {
        Checks.part("in none at first");
        PacketLaw x = world(2, 4);
        for (int year = 0; year <= 40; year++) {
            int y = year;
            Checks.due("in " + y, -1, () -> x.in(1, y));
        }
        Checks.due("joins the last one", 1, () -> x.join(1, 3, 40));
        Checks.due("in 39", -1, () -> x.in(1, 39));
        Checks.due("in 40", 3, () -> x.in(1, 40));
        Checks.due("the other", -1, () -> x.in(0, 40));
        Checks.due("joins the first one", 2, () -> x.join(0, 0, 0));
        Checks.due("in 0", 0, () -> x.in(0, 0));
        Checks.due("joins none", 3, () -> x.join(0, -1, 1));
        Checks.due("in 0 still", 0, () -> x.in(0, 0));
        Checks.due("none in 1", -1, () -> x.in(0, 1));
    }

    private static void latestYearNotBehind() {
        Checks.part("IN it in a YEAR by what was told from the latest YEAR not behind that one");
        PacketLaw x = world(1, 4);
        x.join(0, 0, 10);
        x.join(0, 1, 30);
        x.join(0, 2, 20);
        x.join(0, 3, 5);
        int[] years = {4, 5, 9, 10, 19, 20, 29, 30, 40};
        int[] want = {-1, 3, 3, 0, 0, 2, 2, 1, 1};
        for (int i = 0; i < years.length; i++) {
            int year = years[i];
            Checks.due("in " + year, want[i], () -> x.in(0, year));
        }
        x.join(0, -1, 25);
        Checks.due("in 24", 2, () -> x.in(0, 24));
        Checks.due("none in 25", -1, () -> x.in(0, 25));
        Checks.due("none in 29", -1, () -> x.in(0, 29));
        Checks.due("in 30", 1, () -> x.in(0, 30));
        x.years(3);
        Checks.due("a year ahead of now can be told", 6, () -> x.join(0, 0, 0));
        Checks.due("in 0", 0, () -> x.in(0, 0));
        Checks.due("in 5", 3, () -> x.in(0, 5));
    }

    private static void toldLast() {
        Checks.part("of several the one told last");
        PacketLaw x = world(2, 3);
        x.join(0, 2, 7);
        x.join(0, 0, 7);
        Checks.due("of two", 0, () -> x.in(0, 7));
        x.join(1, 1, 7);
        Checks.due("another maker's does not count", 0, () -> x.in(0, 7));
        x.join(0, 1, 3);
        Checks.due("one of an earlier year does not count", 0, () -> x.in(0, 8));
        x.join(0, -1, 7);
        Checks.due("none, told last", -1, () -> x.in(0, 8));
        x.join(0, 2, 7);
        Checks.due("in again", 2, () -> x.in(0, 8));
        Checks.due("before", 1, () -> x.in(0, 6));
        Checks.due("each was counted", 6, () -> x.count(12));
    }

    private static void weightOfThoseIn() {
        Checks.part("WEIGHT of a SCHEME, SORT, YEAR: DECLARED of the MAKERS IN it");
        PacketLaw x = world(10, 2);
        x.years(1);
        for (int m = 0; m < 10; m++) {
            x.join(m, m % 2, 0);
            x.declare(m, 4, 1, 1 << m);
        }
        Checks.due("the even ones", 341, () -> x.owes(0, 4, 1, 1, 0));
        Checks.due("the odd ones", 682, () -> x.owes(1, 4, 1, 1, 0));
        Checks.due("of another sort", 0, () -> x.owes(0, 3, 1, 1, 0));
        Checks.due("of another year", 0, () -> x.owes(0, 4, 0, 1, 0));
        x.join(0, 1, 1);
        Checks.due("one less in that year", 340, () -> x.owes(0, 4, 1, 1, 0));
        Checks.due("one more in that year", 683, () -> x.owes(1, 4, 1, 1, 0));
        x.join(2, -1, 1);
        Checks.due("one left", 336, () -> x.owes(0, 4, 1, 1, 0));
        x.join(4, 1, 2);
        Checks.due("from the next year on does not count", 336, () -> x.owes(0, 4, 1, 1, 0));
        x.declare(6, 4, 1, 0);
        Checks.due("told anew", 272, () -> x.owes(0, 4, 1, 1, 0));
    }

    private static void weightWithoutSmallOnes() {
        Checks.part("WEIGHT: of those that aren't SMALL");
        PacketLaw x = world(3, 1);
        for (int m = 0; m < 3; m++) {
            x.join(m, 0, 0);
        }
        x.declare(0, 0, 0, 99);
        x.declare(1, 0, 0, 99);
        x.declare(1, 1, 0, 1);
        x.declare(2, 0, 0, 100);
        Checks.due("without least", 298, () -> x.owes(0, 0, 0, 0, 0));
        Checks.law(x, 0, "least 100;");
        Checks.due("99 is small; 99 and 1 of another sort is not", 199, () -> x.owes(0, 0, 0, 0, 0));
        Checks.law(x, 0, "least 101;");
        Checks.due("all are small", 0, () -> x.owes(0, 0, 0, 0, 0));
        Checks.law(x, 1, "least 0;");
        Checks.due("by the laws of that year", 0, () -> x.owes(0, 0, 0, 5, 0));
    }

    private static void weightAsKnown() {
        Checks.part("WEIGHT as KNOWN in another one");
        PacketLaw x = world(1, 1);
        x.join(0, 0, 0);
        Checks.law(x, 0, "least 50;");
        x.declare(0, 2, 0, 60);
        x.years(1);
        x.declare(0, 2, 0, 49);
        x.years(1);
        x.declare(0, 2, 0, 50);
        Checks.due("before all", 0, () -> x.owes(0, 2, 0, -1, 0));
        Checks.due("in 0", 60, () -> x.owes(0, 2, 0, 0, 0));
        Checks.due("in 1: small", 0, () -> x.owes(0, 2, 0, 1, 0));
        Checks.due("in 2", 50, () -> x.owes(0, 2, 0, 2, 0));
        Checks.due("in a year to come", 50, () -> x.owes(0, 2, 0, 40, 0));
    }

    private static void boundToHundredths() {
        Checks.part("BOUND is a SCHEME to target hundredths of it, cut");
        int[][] rows = {{0, 999, 0}, {1, 99, 0}, {1, 100, 1}, {1, 199, 1}, {50, 1, 0}, {50, 3, 1}, {99, 1, 0}, {99, 101, 99}, {100, 101, 101}, {33, 1000, 330}};
        for (int[] row : rows) {
            PacketLaw x = world(1, 1);
            x.join(0, 0, 0);
            x.declare(0, 3, 0, row[1]);
            Checks.law(x, 0, "target film " + row[0] + ";target tin 100;");
            Checks.due(row[0] + " hundredths of " + row[1], row[2], () -> x.owes(0, 3, 0, 0, 1));
            Checks.due("short as much", row[2], () -> x.owes(0, 3, 0, 0, 3));
            Checks.due("another sort", 0, () -> x.owes(0, 2, 0, 0, 1));
        }
        // cut once, of the scheme's whole weight: twice 50 are 1 hundredth of 100
        PacketLaw y = world(2, 1);
        y.join(0, 0, 0);
        y.join(1, 0, 0);
        y.declare(0, 0, 0, 50);
        y.declare(1, 0, 0, 50);
        Checks.law(y, 0, "target paper 1;");
        Checks.due("of all its makers together", 1, () -> y.owes(0, 0, 0, 0, 1));
        Checks.law(y, 1, "target paper 100;");
        Checks.due("by the laws of that year", 1, () -> y.owes(0, 0, 0, 1, 1));
    }

    private static void boundWithoutSmallOnes() {
        Checks.part("BOUND: of the WEIGHT, so small ones bind to nothing");
        PacketLaw x = world(3, 1);
        for (int m = 0; m < 3; m++) {
            x.join(m, 0, 0);
        }
        x.declare(0, 0, 0, 900);
        x.declare(1, 0, 0, 100);
        x.declare(2, 0, 0, 500);
        Checks.law(x, 0, "target paper 50;");
        Checks.due("without least", 750, () -> x.owes(0, 0, 0, 0, 1));
        Checks.law(x, 0, "least 501;");
        Checks.due("900 alone", 450, () -> x.owes(0, 0, 0, 0, 1));
        Checks.due("short as much", 450, () -> x.owes(0, 0, 0, 0, 3));
    }

    private static void boundInItsYear() {
        Checks.part("BOUND for a YEAR: target, orphans, who is IN, DECLARED, as of that YEAR, whatever is known when");
        PacketLaw x = world(2, 2);
        Checks.law(x, 0, "target paper 1;orphans schemes;");
        Checks.law(x, 3, "target paper 30;orphans makers;");
        Checks.law(x, 5, "target paper 50;orphans schemes;");
        x.join(0, 1, 2);
        x.join(0, 0, 5);
        x.years(4);
        x.declare(0, 0, 3, 1000);
        x.declare(1, 0, 3, 1000);
        x.declare(0, 0, 4, 70000);
        x.years(3);
        x.declare(0, 0, 3, 3000);
        x.declare(0, 0, 7, 900000);
        x.orphans(0, 0, 999);
        x.orphans(0, 3, 40);
        x.orphans(0, 7, 555);
        x.orphans(4, 3, 111);
        Checks.due("weight as known in 4", 1000, () -> x.owes(1, 0, 3, 4, 0));
        Checks.due("orphans as known in 4: by makers, 1000 of 2000", 20, () -> x.owes(1, 0, 3, 4, 4));
        Checks.due("bound as known in 4", 320, () -> x.owes(1, 0, 3, 4, 1));
        Checks.due("short as known in 4", 320, () -> x.owes(1, 0, 3, 4, 3));
        Checks.due("weight as known in 7", 3000, () -> x.owes(1, 0, 3, 7, 0));
        Checks.due("orphans as known in 7: 3000 of 4000", 30, () -> x.owes(1, 0, 3, 7, 4));
        Checks.due("bound as known in 7", 930, () -> x.owes(1, 0, 3, 7, 1));
        Checks.due("short as known in 7", 930, () -> x.owes(1, 0, 3, 7, 3));
        Checks.due("bound as known in 3: to nothing", 0, () -> x.owes(1, 0, 3, 3, 1));
        Checks.due("the scheme of later years", 0, () -> x.owes(0, 0, 3, 7, 1));
        Checks.due("it is bound in 7: by schemes, all orphans", 450555, () -> x.owes(0, 0, 7, 7, 1));
        Checks.due("in 4 without orphans", 21000, () -> x.owes(1, 0, 4, 7, 1));
        Checks.due("in 4 as known in 3", 0, () -> x.owes(1, 0, 4, 3, 1));
    }

    private static void boundWithOrphans() {
        Checks.part("BOUND: and what it has of ORPHANS");
        PacketLaw x = world(1, 2);
        x.join(0, 1, 0);
        x.declare(0, 0, 0, 199);
        Checks.law(x, 0, "target paper 1;");
        x.orphans(0, 0, 7);
        Checks.due("1.99, cut, and 7", 8, () -> x.owes(1, 0, 0, 0, 1));
        Checks.due("short", 8, () -> x.owes(1, 0, 0, 0, 3));
        Checks.due("the other scheme", 0, () -> x.owes(0, 0, 0, 0, 1));
        Checks.law(x, 0, "target paper 0;");
        Checks.due("orphans alone", 7, () -> x.owes(1, 0, 0, 0, 1));
        x.orphans(1, 0, 9);
        Checks.due("another sort's have no weight", 0, () -> x.owes(1, 1, 0, 0, 1));
    }

    private static void orphansToldAnew() {
        Checks.part("ORPHANS (0 to 1,000,000; told anew at will)");
        PacketLaw x = world(1, 1);
        x.join(0, 0, 0);
        x.declare(0, 0, 0, 1);
        int was = 0;
        for (int i = 0; i < 205; i++) {
            int before = was;
            int now = i % 2 == 0 ? 1000000 - i : i;
            Checks.due("what they were", before, () -> x.orphans(0, 0, now));
            was = now;
        }
        Checks.due("the last counts", 999796, () -> x.owes(0, 0, 0, 0, 4));
        Checks.due("none", 999796, () -> x.orphans(0, 0, 0));
        Checks.due("none any more", 0, () -> x.owes(0, 0, 0, 0, 4));
        Checks.due("the most", 0, () -> x.orphans(0, 0, 1000000));
        Checks.due("the most", 1000000, () -> x.owes(0, 0, 0, 0, 4));
        Checks.due("of a year to come", 0, () -> x.orphans(0, 40, 5));
        Checks.due("its own", 5, () -> x.orphans(0, 40, 6));
        Checks.due("not that of another", 1000000, () -> x.orphans(0, 0, 1));
    }

    /** Makers of such weights, each in a scheme of its own (four at most), share so many kilograms. */
    private static void share(String text, int kilos, int[] weights, long... want) {
        PacketLaw x = world(weights.length, weights.length);
        Checks.law(x, 0, text);
        for (int m = 0; m < weights.length; m++) {
            x.join(m, m, 0);
            x.declare(m, 1, 0, weights[m]);
        }
        x.orphans(1, 0, kilos);
        for (int s = 0; s < weights.length; s++) {
            int scheme = s;
            Checks.due(text + " " + kilos + " to " + s, want[s], () -> x.owes(scheme, 1, 0, 0, 4));
        }
    }

    private static int[] of(int... all) {
        return all;
    }

    private static void partedByWeights() {
        Checks.part("PARTED: each has kilograms times its WEIGHT, by all WEIGHTS, cut");
        for (String text : new String[] {"orphans makers;", "orphans schemes;", ""}) {
            share(text, 0, of(1, 2, 3), 0, 0, 0);
            share(text, 6, of(1, 2, 3), 1, 2, 3);
            share(text, 12, of(1, 2, 3), 2, 4, 6);
            share(text, 100, of(25, 25, 25, 25), 25, 25, 25, 25);
            share(text, 5, of(7), 5);
            share(text, 5, of(0, 7), 0, 5);
            share(text, 5, of(7, 0), 5, 0);
            share(text, 5, of(0, 0, 7, 0), 0, 0, 5, 0);
            share(text, 1000000, of(10000000, 10000000), 500000, 500000);
        }
    }

    private static void greatestRests() {
        Checks.part("what is over then, a kilogram each, goes to those with the greatest rests, then by number");
        for (String text : new String[] {"orphans makers;", "orphans schemes;"}) {
            share(text, 1, of(1, 1), 1, 0);
            share(text, 1, of(1, 2), 0, 1);
            share(text, 1, of(2, 1), 1, 0);
            share(text, 1, of(1, 1, 1, 1), 1, 0, 0, 0);
            share(text, 2, of(1, 1, 1, 1), 1, 1, 0, 0);
            share(text, 3, of(1, 1, 1, 1), 1, 1, 1, 0);
            share(text, 4, of(1, 1, 1, 1), 1, 1, 1, 1);
            share(text, 5, of(1, 1, 1, 1), 2, 1, 1, 1);
            // 1 by 6: rests 1, 2, 3; 2 by 6: 2, 4, 0 and a whole
            share(text, 1, of(1, 2, 3), 0, 0, 1);
            share(text, 2, of(1, 2, 3), 0, 1, 1);
            // 4 by 6: 0 rest 4, 1 rest 2, 2 rest 0
            share(text, 4, of(1, 2, 3), 1, 1, 2);
            // 5 by 6: 0 rest 5, 1 rest 4, 2 rest 3: two are over
            share(text, 5, of(1, 2, 3), 1, 2, 2);
            // 3 by 8: 1 rest 1, 0 rest 6, 0 rest 6, 0 rest 3: two are over
            share(text, 3, of(3, 2, 2, 1), 1, 1, 1, 0);
            // 2 by 8: rests 6, 4, 4, 2
            share(text, 2, of(3, 2, 2, 1), 1, 1, 0, 0);
            // the same, the other way round: the rests 2, 4, 4, 6
            share(text, 2, of(1, 2, 2, 3), 0, 1, 0, 1);
            // who weighs nothing has no rest and gets none that is over
            share(text, 2, of(0, 1, 1, 1), 0, 1, 1, 0);
            // 7 by 3 weights of a million and one kilogram of 1: 2 each and one over; its rest is the least
            share(text, 7, of(1, 1000000, 1000000, 1000000), 0, 3, 2, 2);
        }
    }

    private static void nobodyHasAny() {
        Checks.part("nobody has any, if all WEIGHTS are 0");
        share("orphans makers;", 1000000, of(0, 0, 0, 0), 0, 0, 0, 0);
        share("orphans schemes;", 1000000, of(0, 0, 0, 0), 0, 0, 0, 0);
        share("orphans makers;least 10;", 5, of(9, 9), 0, 0);
        share("orphans schemes;least 10;", 5, of(9, 9), 0, 0);
        share("orphans schemes;least 9;", 5, of(9, 9), 3, 2);
        PacketLaw x = world(0, 1);
        x.orphans(0, 0, 50);
        Checks.due("without makers", 0, () -> x.owes(0, 0, 0, 0, 4));
        Checks.due("bound to nothing", 0, () -> x.owes(0, 0, 0, 0, 1));
        PacketLaw y = world(1, 1);
        y.declare(0, 0, 0, 50);
        y.orphans(0, 0, 50);
        Checks.due("by makers, one that is in none", 0, () -> y.owes(0, 0, 0, 0, 4));
        Checks.law(y, 0, "orphans schemes;");
        Checks.due("by schemes that have none in them", 0, () -> y.owes(0, 0, 0, 0, 4));
    }

    private static void orphansByMakers() {
        Checks.part("by makers: a SCHEME has what MAKERS IN it have");
        PacketLaw x = world(5, 2);
        x.orphans(0, 0, 10);
        for (int m = 0; m < 5; m++) {
            x.declare(m, 0, 0, 7);
        }
        x.join(0, 0, 0);
        x.join(1, 1, 0);
        x.join(2, 1, 0);
        Checks.due("2 of 10", 2, () -> x.owes(0, 0, 0, 0, 4));
        Checks.due("4 of 10: others are in none, and have theirs", 4, () -> x.owes(1, 0, 0, 0, 4));
        x.orphans(0, 0, 12);
        // 2.4 each: two are over, for makers 0 and 1
        Checks.due("3 of 12", 3, () -> x.owes(0, 0, 0, 0, 4));
        Checks.due("3 and 2 of 12", 5, () -> x.owes(1, 0, 0, 0, 4));
        x.declare(4, 0, 0, 8);
        // by 36: 7 have 2 rest 12, 8 has 2 rest 24: two are over, for makers 4 and 0
        Checks.due("one that is in none has the greatest rest", 3, () -> x.owes(0, 0, 0, 0, 4));
        Checks.due("so these have less", 4, () -> x.owes(1, 0, 0, 0, 4));
        Checks.law(x, 0, "least 8;");
        Checks.due("small ones have none", 0, () -> x.owes(0, 0, 0, 0, 4));
        x.join(4, 0, 0);
        Checks.due("all of them", 12, () -> x.owes(0, 0, 0, 0, 4));
        x.declare(3, 1, 0, 8);
        Checks.due("not small by another sort: 12 by 15, and 7", 6, () -> x.owes(0, 0, 0, 0, 4));
        x.join(3, 1, 0);
        Checks.due("5.6", 6, () -> x.owes(1, 0, 0, 0, 4));
    }

    private static void orphansBySchemes() {
        Checks.part("by WEIGHTS of SCHEMES");
        PacketLaw x = world(4, 3);
        Checks.law(x, 0, "orphans schemes;");
        x.orphans(0, 0, 10);
        for (int m = 0; m < 4; m++) {
            x.declare(m, 0, 0, 5);
        }
        x.join(0, 0, 0);
        x.join(1, 2, 0);
        Checks.due("a maker in none has nothing", 5, () -> x.owes(0, 0, 0, 0, 4));
        Checks.due("a scheme with none in it has nothing", 0, () -> x.owes(1, 0, 0, 0, 4));
        x.join(2, 2, 0);
        // 3.33 and 6.67: the one that is over goes to the last
        Checks.due("3.33", 3, () -> x.owes(0, 0, 0, 0, 4));
        Checks.due("6.67", 7, () -> x.owes(2, 0, 0, 0, 4));
        Checks.law(x, 1, "orphans makers;");
        Checks.due("by the laws of that year", 3, () -> x.owes(0, 0, 0, 1, 4));
        Checks.law(x, 0, "orphans makers;");
        // 2.5 each: two are over, for makers 0 and 1
        Checks.due("by makers", 3, () -> x.owes(0, 0, 0, 0, 4));
        Checks.due("by makers", 5, () -> x.owes(2, 0, 0, 0, 4));
    }

    private static void moreSchemesThanMakers() {
        Checks.part("by makers, where there are fewer MAKERS than SCHEMES");
        PacketLaw x = world(2, 4);
        Checks.law(x, 0, "towns paper 1000;");
        x.load(0, 90, 100, 0, 0, 0, 0);
        x.join(0, 3, 0);
        x.join(1, 2, 0);
        x.declare(0, 0, 0, 1);
        x.declare(1, 0, 0, 2);
        x.orphans(0, 0, 30);
        long[] want = {0, 0, 20, 10};
        for (int asked = 0; asked < 2; asked++) {
            for (int s = 3; s >= 0; s--) {
                int scheme = s;
                Checks.due("pay by " + s, 3 * want[s], () -> x.pay(0, 0, scheme));
                Checks.due("orphans of " + s, want[s], () -> x.owes(scheme, 0, 0, 0, 4));
            }
        }
    }

    private static void fewerSchemesThanMakers() {
        Checks.part("by schemes, where there are more MAKERS than SCHEMES");
        PacketLaw x = world(3, 2);
        Checks.law(x, 0, "towns paper 1000;");
        x.join(0, 0, 0);
        x.join(1, 1, 0);
        x.declare(0, 0, 0, 50);
        x.declare(1, 0, 0, 50);
        x.declare(2, 0, 0, 49);
        x.orphans(0, 0, 1);
        x.years(1);
        x.declare(0, 0, 1, 1);
        x.declare(1, 0, 1, 2);
        x.load(0, 1, 100, 0, 0, 0, 0);
        for (int asked = 0; asked < 2; asked++) {
            Checks.due("the orphan of three makers", 1, () -> x.owes(0, 0, 0, 1, 4));
            Checks.due("a third of a coin", 0, () -> x.pay(0, 1, 0));
            Checks.due("the orphan of three makers", 0, () -> x.owes(1, 0, 0, 1, 4));
            Checks.due("two thirds of a coin", 1, () -> x.pay(0, 1, 1));
        }
    }

    private static void orphansAsKnown() {
        Checks.part("ORPHANS are PARTED by WEIGHTS as KNOWN");
        for (String text : new String[] {"orphans makers;", "orphans schemes;"}) {
            PacketLaw x = world(2, 2);
            Checks.law(x, 0, text);
            x.join(0, 0, 0);
            x.join(1, 1, 0);
            x.declare(0, 0, 0, 1);
            x.declare(1, 0, 0, 3);
            x.years(1);
            x.declare(0, 0, 0, 3);
            x.orphans(0, 0, 60);
            Checks.due(text + " in 0", 15, () -> x.owes(0, 0, 0, 0, 4));
            Checks.due(text + " in 0", 45, () -> x.owes(1, 0, 0, 0, 4));
            Checks.due(text + " in 1", 30, () -> x.owes(0, 0, 0, 1, 4));
            Checks.due(text + " in 1", 30, () -> x.owes(1, 0, 0, 1, 4));
            Checks.due(text + " before all", 0, () -> x.owes(1, 0, 0, -1, 4));
            Checks.due(text + " of another year", 0, () -> x.owes(1, 0, 1, 1, 4));
        }
    }

    private static void greatestAmounts() {
        Checks.part("the greatest WEIGHTS and ORPHANS");
        PacketLaw x = world(10, 1);
        Checks.law(x, 0, "target paper 100;");
        for (int m = 0; m < 10; m++) {
            x.join(m, 0, 0);
            x.declare(m, 0, 0, 10000000);
        }
        x.orphans(0, 0, 1000000);
        Checks.due("weight", 100000000L, () -> x.owes(0, 0, 0, 0, 0));
        Checks.due("orphans", 1000000L, () -> x.owes(0, 0, 0, 0, 4));
        Checks.due("bound", 101000000L, () -> x.owes(0, 0, 0, 0, 1));
        Checks.due("short", 101000000L, () -> x.owes(0, 0, 0, 0, 3));
    }
}
