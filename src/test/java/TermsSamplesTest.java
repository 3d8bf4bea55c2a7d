/** The document's terms, part 6, sentence by sentence: samples, spans, who is shy, what is worth a look, texts tried. */
public final class TermsSamplesTest {
    private TermsSamplesTest() {
    }

    public static void main(String[] args) {
        sampleBounds();
        allSamplesTogether();
        allOfAllTowns();
        rootIsWhole();
        fromIsNotBelowNought();
        spanIsCut();
        greatestSpan();
        withoutSamples();
        shyBySoMany();
        shyAsKnownNow();
        shyestOfAll();
        shyestInItsYear();
        worthInItsYear();
        worthTheWidest();
        worthWithoutSpan();
        triedAsTheLast();
        triedInForceInThatYear();
        triedAsKnownNow();
        triedChangesNothing();
        Checks.end();
    }

    private static PacketLaw makers(int many) {
        PacketLaw x = new PacketLaw();
        for (int i = 0; i < many; i++) {
            x.maker();
        }
        return x;
    }

    /** A load of so many kilograms of one sort. */
    private static void load(PacketLaw x, int sort, int kilos) {
        x.load(0, kilos, sort == 0 ? 100 : 0, sort == 1 ? 100 : 0, sort == 2 ? 100 : 0, sort == 3 ? 100 : 0, 0);
    }

    private static void sampleBounds() {
        Checks.part("SAMPLES: so many looked at (1 to 1,000), so many of these the MAKER's");
        int[][] rows = {{1, 0}, {1, 1}, {2, 1}, {999, 999}, {1000, 0}, {1000, 999}, {1000, 1000}};
        for (int[] row : rows) {
            PacketLaw x = makers(1);
            load(x, 2, 1000);
            Checks.due("a sample", 1, () -> x.sample(0, 2, 0, row[0], row[1]));
            int r = 1;
            while (r * r <= 4 * row[1]) {
                r++;
            }
            int from = 1000 * Math.max(0, row[1] - r) / row[0];
            int to = 1000 * (row[1] + r) / row[0];
            Checks.due(row[1] + " of " + row[0] + ": from", from, () -> x.span(0, 2, 0, 0));
            Checks.due(row[1] + " of " + row[0] + ": to", to, () -> x.span(0, 2, 0, 1));
        }
        PacketLaw y = makers(1);
        y.years(2);
        for (int year = 0; year <= 2; year++) {
            int when = year;
            Checks.due("of a year up to now", year + 1, () -> y.sample(0, 0, when, 1, 0));
        }
        y.maker();
        Checks.due("of another maker: as many as there are in all", 4, () -> y.sample(1, 0, 0, 1, 0));
        Checks.due("of another sort", 5, () -> y.sample(1, 4, 2, 1, 0));
        Checks.dueThrow("of next year", IllegalArgumentException.class, () -> y.sample(0, 0, 3, 1, 0));
        Checks.dueThrow("none looked at", IllegalArgumentException.class, () -> y.sample(0, 0, 0, 0, 0));
        Checks.dueThrow("1,001 looked at", IllegalArgumentException.class, () -> y.sample(0, 0, 0, 1001, 0));
        Checks.dueThrow("one more than were looked at", IllegalArgumentException.class, () -> y.sample(0, 0, 0, 999, 1000));
        Checks.dueThrow("less than none", IllegalArgumentException.class, () -> y.sample(0, 0, 0, 5, -1));
        Checks.due("these are none", 5, () -> y.count(10));
        Checks.due("nor is there a span by them", -1, () -> makers(1).span(0, 0, 0, 0));
    }

    private static void allSamplesTogether() {
        Checks.part("by all SAMPLES of a YEAR, SORT, MAKER together: n and h");
        PacketLaw x = makers(2);
        x.years(1);
        load(x, 0, 10000);
        load(x, 4, 10000);
        x.sample(0, 0, 1, 10, 9);
        x.sample(1, 0, 1, 500, 500);
        x.sample(0, 4, 1, 500, 500);
        x.sample(0, 0, 0, 500, 500);
        x.sample(0, 0, 1, 90, 16);
        // n 100, h 25, r 11
        Checks.due("from", 1400, () -> x.span(0, 0, 1, 0));
        Checks.due("to", 3600, () -> x.span(0, 0, 1, 1));
        x.sample(0, 0, 1, 100, 0);
        Checks.due("one that found none counts: from", 700, () -> x.span(0, 0, 1, 0));
        Checks.due("to", 1800, () -> x.span(0, 0, 1, 1));
        // n 500, h 500, r 45
        Checks.due("another maker's", 9100, () -> x.span(1, 0, 1, 0));
        Checks.due("another maker's: to", 10900, () -> x.span(1, 0, 1, 1));
        Checks.due("another sort's: from", 9100, () -> x.span(0, 4, 1, 0));
        Checks.due("another sort's", 10900, () -> x.span(0, 4, 1, 1));
        Checks.due("another year's, without loads", 0, () -> x.span(0, 0, 0, 1));
    }

    private static void allOfAllTowns() {
        Checks.part("ALL: OUT of all LOADS of that YEAR, of the SORT");
        PacketLaw x = makers(1);
        x.sample(0, 1, 0, 1, 1);
        Checks.due("without loads: from", 0, () -> x.span(0, 1, 0, 0));
        Checks.due("without loads: to", 0, () -> x.span(0, 1, 0, 1));
        // to: four times all
        for (int town = 0; town < 6; town++) {
            int t = town;
            x.load(t, 100, 0, 50, 0, 0, 50);
            Checks.due("of each town what is out", 100 * (t + 1), () -> x.span(0, 1, 0, 1));
        }
        x.load(0, 1000, 100, 0, 0, 0, 0);
        Checks.due("another sort's does not count", 600, () -> x.span(0, 1, 0, 1));
        x.years(1);
        x.load(0, 1000, 0, 100, 0, 0, 0);
        Checks.due("another year's does not count", 600, () -> x.span(0, 1, 0, 1));
        x.sample(0, 1, 1, 1, 1);
        Checks.due("in its own year", 4000, () -> x.span(0, 1, 1, 1));
    }

    private static void rootIsWhole() {
        Checks.part("r: 1 and the greatest whole number whose square is not above 4 h");
        // h and r: squares, and those just below and above
        int[][] rows = {{0, 1}, {1, 3}, {2, 3}, {3, 4}, {4, 5}, {5, 5}, {6, 5}, {7, 6}, {8, 6}, {9, 7}, {12, 7}, {13, 8}, {15, 8}, {16, 9},
            {24, 10}, {25, 11}, {26, 11}, {99, 20}, {100, 21}, {101, 21}, {248, 32}, {249, 32}, {250, 32}, {255, 32}, {256, 33}, {257, 33}, {961, 63}, {960, 62}, {1000, 64}};
        for (int[] row : rows) {
            PacketLaw x = makers(1);
            load(x, 0, 1000);
            x.sample(0, 0, 0, 1000, row[0]);
            Checks.due("to, by h " + row[0], row[0] + row[1], () -> x.span(0, 0, 0, 1));
            Checks.due("from, by h " + row[0], Math.max(0, row[0] - row[1]), () -> x.span(0, 0, 0, 0));
        }
    }

    private static void fromIsNotBelowNought() {
        Checks.part("SPAN: from ALL times (h less r, 0 at least)");
        for (int h = 0; h <= 8; h++) {
            PacketLaw x = makers(1);
            load(x, 0, 100);
            int found = h;
            x.sample(0, 0, 0, 100, found);
            int[] want = {0, 0, 0, 0, 0, 0, 1, 1, 2};
            Checks.due("h " + h, want[h], () -> x.span(0, 0, 0, 0));
        }
    }

    private static void spanIsCut() {
        Checks.part("SPAN: by n (cut)");
        PacketLaw x = makers(1);
        load(x, 0, 99);
        x.sample(0, 0, 0, 1000, 100);
        // r 21: 99 times 79 is 7821, 99 times 121 is 11979
        Checks.due("7.8", 7, () -> x.span(0, 0, 0, 0));
        Checks.due("11.9", 11, () -> x.span(0, 0, 0, 1));
        load(x, 0, 1);
        Checks.due("7.9", 7, () -> x.span(0, 0, 0, 0));
        Checks.due("12.1", 12, () -> x.span(0, 0, 0, 1));
        PacketLaw y = makers(1);
        load(y, 0, 1);
        y.sample(0, 0, 0, 3, 0);
        Checks.due("0.3", 0, () -> y.span(0, 0, 0, 1));
        y.sample(0, 0, 0, 1, 1);
        // n 4, h 1, r 3
        Checks.due("4 by 4", 1, () -> y.span(0, 0, 0, 1));
    }

    private static void greatestSpan() {
        Checks.part("the greatest SPAN");
        PacketLaw x = makers(1);
        for (int i = 0; i < 60; i++) {
            load(x, 0, 20000);
        }
        x.sample(0, 0, 0, 1, 1);
        Checks.due("four times all", 4800000, () -> x.span(0, 0, 0, 1));
        for (int i = 1; i < 60; i++) {
            x.sample(0, 0, 0, 1000, 1000);
        }
        // n 59001, h 59001, r 1 and 485
        Checks.due("from", 1190115, () -> x.span(0, 0, 0, 0));
        Checks.due("to", 1209884, () -> x.span(0, 0, 0, 1));
        Checks.due("shy by all of it", 1190115, () -> x.shy(0, 0, 0));
    }

    private static void withoutSamples() {
        Checks.part("without SAMPLES there is no SPAN, and nobody is SHY");
        PacketLaw x = makers(10);
        load(x, 3, 20000);
        for (int m = 0; m < 10; m++) {
            int maker = m;
            Checks.due("from", -1, () -> x.span(maker, 3, 0, 0));
            Checks.due("to", -1, () -> x.span(maker, 3, 0, 1));
            Checks.due("shy", 0, () -> x.shy(maker, 3, 0));
        }
        Checks.due("shyest", -1, () -> x.shyest(0));
        x.sample(9, 3, 0, 10, 10);
        Checks.due("of another maker", -1, () -> x.span(8, 3, 0, 0));
        Checks.due("of another sort", -1, () -> x.span(9, 2, 0, 0));
        Checks.due("of another year", -1, () -> x.span(9, 3, 1, 1));
        Checks.due("its own: 10 less 7", 6000, () -> x.span(9, 3, 0, 0));
        Checks.due("the last maker", 93, () -> x.shyest(0));
    }

    private static void shyBySoMany() {
        Checks.part("SHY by so many kilograms as DECLARED are below the SPAN's from (0, if not)");
        PacketLaw x = makers(1);
        load(x, 4, 1000);
        x.sample(0, 4, 0, 100, 64);
        // r 17: 47 hundredths
        Checks.due("from", 470, () -> x.span(0, 4, 0, 0));
        int[] kilos = {0, 1, 469, 470, 471, 810, 10000000};
        int[] want = {470, 469, 1, 0, 0, 0, 0};
        for (int i = 0; i < kilos.length; i++) {
            x.declare(0, 4, 0, kilos[i]);
            Checks.due("declared " + kilos[i], want[i], () -> x.shy(0, 4, 0));
            Checks.due("shyest", want[i] > 0 ? 4 : -1, () -> x.shyest(0));
        }
        x.declare(0, 4, 0, 0);
        x.declare(0, 0, 0, 10000000);
        Checks.due("what is declared of another sort helps nothing", 470, () -> x.shy(0, 4, 0));
        Checks.law(x, 0, "least 9999;");
        x.declare(0, 0, 0, 0);
        Checks.due("a small one is shy too", 470, () -> x.shy(0, 4, 0));
    }

    private static void shyAsKnownNow() {
        Checks.part("SHY: DECLARED as KNOWN now");
        PacketLaw x = makers(1);
        load(x, 0, 1000);
        x.declare(0, 0, 0, 400);
        x.years(1);
        x.sample(0, 0, 0, 100, 64);
        Checks.due("a sample told later counts", 70, () -> x.shy(0, 0, 0));
        x.declare(0, 0, 0, 450);
        Checks.due("told anew", 20, () -> x.shy(0, 0, 0));
        x.declare(0, 0, 1, 470);
        Checks.due("of another year", 20, () -> x.shy(0, 0, 0));
        x.declare(0, 0, 0, 470);
        Checks.due("enough", 0, () -> x.shy(0, 0, 0));
        x.sample(0, 0, 0, 28, 28);
        // n 128, h 92, r 20: 562.5
        Checks.due("by all samples", 92, () -> x.shy(0, 0, 0));
    }

    private static void shyestOfAll() {
        Checks.part("SHYEST: of all MAKERS and SORTS the one SHY by the most, then the first MAKER, then SORT");
        PacketLaw x = makers(10);
        for (int sort = 0; sort < 5; sort++) {
            load(x, sort, 1000);
        }
        Checks.due("nobody", -1, () -> x.shyest(0));
        x.sample(9, 4, 0, 100, 64);
        Checks.due("the last of all", 94, () -> x.shyest(0));
        x.sample(9, 2, 0, 100, 64);
        Checks.due("as shy: the first sort", 92, () -> x.shyest(0));
        x.sample(5, 3, 0, 100, 64);
        Checks.due("as shy: the first maker, whatever the sort", 53, () -> x.shyest(0));
        x.sample(7, 0, 0, 100, 65);
        // r 17: 48 hundredths
        Checks.due("by the most", 70, () -> x.shyest(0));
        x.declare(7, 0, 0, 10);
        Checks.due("as shy: the first maker", 53, () -> x.shyest(0));
        x.declare(7, 0, 0, 9);
        Checks.due("by one more", 70, () -> x.shyest(0));
        x.declare(7, 0, 0, 480);
        x.declare(5, 3, 0, 469);
        x.declare(9, 2, 0, 470);
        x.declare(9, 4, 0, 470);
        Checks.due("by one", 53, () -> x.shyest(0));
        x.declare(5, 3, 0, 470);
        Checks.due("nobody any more", -1, () -> x.shyest(0));
        x.sample(0, 0, 0, 100, 64);
        Checks.due("maker 0 and sort 0", 0, () -> x.shyest(0));
        Checks.due("another year", -1, () -> x.shyest(1));
        Checks.due("the last year", -1, () -> x.shyest(40));
    }

    private static void shyestInItsYear() {
        Checks.part("SHYEST in a YEAR, and SHY: its samples and loads, what is declared for it");
        PacketLaw x = makers(3);
        for (int year = 0; year <= 6; year++) {
            if (year % 2 == 0) {
                load(x, 1, 1000);
                load(x, 2, 1000);
            }
            if (year < 6) {
                x.years(1);
            }
        }
        for (int year = 0; year <= 6; year += 2) {
            x.sample(2, 1, year, 100, 64);
            x.sample(1, 2, year, 100, 64);
        }
        Checks.due("as shy: the first maker", 12, () -> x.shyest(4));
        x.declare(1, 2, 4, 1);
        Checks.due("by one less", 21, () -> x.shyest(4));
        Checks.due("in another year", 12, () -> x.shyest(2));
        x.declare(1, 2, 2, 2);
        x.declare(2, 1, 2, 1);
        x.declare(2, 1, 0, 1);
        x.declare(2, 1, 6, 1);
        Checks.due("in 0", 12, () -> x.shyest(0));
        Checks.due("in 2", 21, () -> x.shyest(2));
        Checks.due("in 4", 21, () -> x.shyest(4));
        Checks.due("in 6", 12, () -> x.shyest(6));
        Checks.due("in 3, without samples", -1, () -> x.shyest(3));
        Checks.due("by so many in 2", 468, () -> x.shy(1, 2, 2));
        Checks.due("by so many in 4", 469, () -> x.shy(1, 2, 4));
        Checks.due("by so many in 6", 470, () -> x.shy(1, 2, 6));
        Checks.due("not in 3", 0, () -> x.shy(1, 2, 3));
    }

    private static void worthInItsYear() {
        Checks.part("WORTH another look in a YEAR: by its samples and loads");
        PacketLaw x = makers(2);
        x.years(2);
        load(x, 3, 1000);
        load(x, 1, 900);
        x.years(3);
        load(x, 2, 1000);
        load(x, 1, 900);
        Checks.due("in 2", 3, () -> x.worth(1, 2));
        Checks.due("in 5", 2, () -> x.worth(1, 5));
        Checks.due("in 0", 0, () -> x.worth(1, 0));
        x.sample(1, 3, 2, 1000, 100);
        Checks.due("a span of 42 of 1000, in 2", 1, () -> x.worth(1, 2));
        Checks.due("in 5 as before", 2, () -> x.worth(1, 5));
        x.sample(1, 2, 5, 1000, 100);
        x.sample(1, 1, 5, 1000, 900);
        Checks.due("42 of 1000, and 122 of 900, in 5", 1, () -> x.worth(1, 5));
        x.sample(1, 1, 2, 1000, 0);
        Checks.due("42 of 1000, and 0.9, in 2", 3, () -> x.worth(1, 2));
        Checks.due("the other maker in 2", 3, () -> x.worth(0, 2));
        Checks.due("the other maker in 5", 2, () -> x.worth(0, 5));
        load(x, 0, 900);
        x.sample(1, 0, 5, 1, 1);
        Checks.due("3600 of 900, in 5", 0, () -> x.worth(1, 5));
        Checks.due("the other maker has no part in it", 2, () -> x.worth(0, 5));
    }

    private static void worthTheWidest() {
        Checks.part("WORTH another look is the SORT of a MAKER whose SPAN is widest; of alike ones the first");
        PacketLaw x = makers(2);
        for (int sort = 0; sort < 5; sort++) {
            load(x, sort, 1000);
            x.sample(0, sort, 0, 1000, 100);
        }
        Checks.due("all alike", 0, () -> x.worth(0, 0));
        load(x, 4, 1000);
        Checks.due("twice as much of the last", 4, () -> x.worth(0, 0));
        load(x, 2, 1000);
        Checks.due("as wide: the first of these", 2, () -> x.worth(0, 0));
        x.sample(0, 2, 0, 100, 0);
        Checks.due("a bit less wide: 77 of 84", 4, () -> x.worth(0, 0));
        x.sample(0, 4, 0, 200, 0);
        Checks.due("then the other", 2, () -> x.worth(0, 0));
        // h 0: from 0 to 1 hundredth
        PacketLaw y = makers(1);
        for (int sort = 0; sort < 5; sort++) {
            load(y, sort, 1000);
            y.sample(0, sort, 0, 100, sort == 1 ? 0 : sort == 3 ? 2 : 1);
        }
        // 10; 0 to 40; 0 to 50
        Checks.due("the width, not where it starts", 3, () -> y.worth(0, 0));
        PacketLaw z = makers(10);
        load(z, 0, 1000);
        load(z, 4, 3000);
        z.sample(9, 0, 0, 100, 25);
        z.sample(9, 4, 0, 100, 4);
        // from 140 to 360; from 0 to 270
        Checks.due("the width, not where it ends", 4, () -> z.worth(9, 0));
        z.sample(9, 4, 0, 100, 0);
        // from 0 to 135
        Checks.due("of the last maker", 0, () -> z.worth(9, 0));
        Checks.due("of one without samples", 4, () -> z.worth(8, 0));
    }

    private static void worthWithoutSpan() {
        Checks.part("WORTH: one without a SPAN being as wide as ALL");
        PacketLaw x = makers(1);
        Checks.due("nothing told", 0, () -> x.worth(0, 0));
        Checks.due("nothing told, the last year", 0, () -> x.worth(0, 40));
        load(x, 3, 2);
        Checks.due("the only one with loads", 3, () -> x.worth(0, 0));
        load(x, 1, 2);
        Checks.due("as wide: the first", 1, () -> x.worth(0, 0));
        load(x, 0, 1);
        Checks.due("less wide", 1, () -> x.worth(0, 0));
        x.sample(0, 1, 0, 2, 0);
        // from 0 to 1
        Checks.due("a span less wide than all", 3, () -> x.worth(0, 0));
        x.sample(0, 3, 0, 3, 3);
        // n 3, h 3, r 4: from 0 to 4.7
        Checks.due("a span wider than all", 3, () -> x.worth(0, 0));
        load(x, 4, 4);
        Checks.due("as wide as all of another: the first", 3, () -> x.worth(0, 0));
        load(x, 4, 1);
        Checks.due("less wide than all of another", 4, () -> x.worth(0, 0));
        x.sample(0, 2, 0, 1, 1);
        Checks.due("a span of nothing", 4, () -> x.worth(0, 0));
    }

    private static void triedAsTheLast() {
        Checks.part("TRIED: if a text on the TAPE were one more LAW, the last");
        PacketLaw x = makers(2);
        x.declare(0, 0, 0, 1000);
        x.declare(1, 0, 0, 3000);
        Checks.law(x, 0, "fee paper=7;least 900;");
        Checks.due("an empty text", 7, () -> Checks.tried(x, 0, 0, ""));
        Checks.due("it counts ahead of those before", 9, () -> Checks.tried(x, 0, 0, "fee paper=9;"));
        Checks.due("of its clauses the last", 11, () -> Checks.tried(x, 0, 0, "fee paper=9;fee paper=11;"));
        Checks.due("share", 25, () -> Checks.tried(x, 0, 0, "fee paper=share;"));
        Checks.due("another least", 0, () -> Checks.tried(x, 0, 0, "least 1001;"));
        Checks.due("just so much", 7, () -> Checks.tried(x, 0, 0, "least 1000;"));
        Checks.due("of another sort", 7, () -> Checks.tried(x, 0, 0, "fee glass=500;ban paper;trips 4;"));
        Checks.due("the other maker", 27, () -> Checks.tried(x, 1, 0, "fee paper=9;"));
        Checks.due("one that is small", 0, () -> Checks.tried(makers(1), 0, 0, "least 1;"));
        for (int i = 1; i < 10; i++) {
            x.law(0, 0);
        }
        Checks.due("there are ten laws", -1, () -> x.law(0, 0));
        Checks.due("an eleventh is tried still", 9, () -> Checks.tried(x, 0, 0, "fee paper=9;"));
        Checks.due("its fault is told", -8, () -> Checks.tried(x, 0, 0, "fee paper=99999;"));
        Checks.due("its place", 10, x::fault);
        Checks.due("ten laws are left", 10, () -> x.count(1));
    }

    private static void triedInForceInThatYear() {
        Checks.part("TRIED: IN FORCE in that YEAR");
        PacketLaw x = makers(1);
        x.years(40);
        for (int year = 0; year <= 40; year += 10) {
            x.declare(0, 0, year, 1000);
        }
        Checks.law(x, 20, "fee paper=200;");
        for (int year = 0; year <= 40; year += 10) {
            int y = year;
            Checks.due("in " + y, 5 + y, () -> Checks.tried(x, 0, y, "fee paper=5+year;"));
            Checks.due("the law in " + y, y < 20 ? 100 : 200, () -> x.fee(0, y, 40));
            Checks.due("an empty text in " + y, y < 20 ? 100 : 200, () -> Checks.tried(x, 0, y, " "));
        }
    }

    private static void triedAsKnownNow() {
        Checks.part("TRIED: as KNOWN now");
        PacketLaw x = makers(1);
        x.declare(0, 0, 0, 1000);
        Checks.due("in 0", 3, () -> Checks.tried(x, 0, 0, "fee paper=3;"));
        x.years(1);
        Checks.due("in 1", 3, () -> Checks.tried(x, 0, 0, "fee paper=3;"));
        x.declare(0, 0, 0, 2000);
        Checks.due("told anew", 6, () -> Checks.tried(x, 0, 0, "fee paper=3;"));
        Checks.due("a year to come", 0, () -> Checks.tried(x, 0, 7, "fee paper=3;"));
    }

    private static void triedChangesNothing() {
        Checks.part("TRIED changes no LAW");
        PacketLaw x = makers(1);
        x.packet(0);
        x.make(0, 10, 0, 0, 0, 0, 0);
        x.sold(0, 0, 100, 50, 4);
        x.declare(0, 0, 0, 1000);
        Checks.law(x, 0, "fee paper=7;");
        Checks.due("tried", 50, () -> Checks.tried(x, 0, 0, "fee paper=50;target paper 1;off paper 2;towns paper 3;least 4;trips 5;orphans schemes;ban paper;"));
        int[] told = {0, 100, 0, 0, 1, 0};
        for (int what = 0; what < 6; what++) {
            int w = what;
            Checks.due("what " + w, told[w], () -> x.tells(0, 0, w));
        }
        Checks.due("the fee", 7, () -> x.fee(0, 0, 0));
        Checks.due("why", 0, () -> x.why(0, 0));
        Checks.due("kilos", 500, () -> x.kilos(0, 0, 0));
        Checks.dueTruth("no ban", false, () -> x.banned(0, 0, 0));
        Checks.due("laws", 1, () -> x.count(1));
        Checks.due("the next law is the second", 1, () -> Checks.law(x, 0, "fee glass=3;"));
        Checks.due("it tells nothing of what was tried", 7, () -> x.fee(0, 0, 0));
        Checks.due("a text with a fault changes nothing either", -9, () -> Checks.tried(x, 0, 0, "fee paper=1;least 9999;?"));
        Checks.due("the fee", 7, () -> x.fee(0, 0, 0));
        Checks.due("laws", 2, () -> x.count(1));
    }
}
