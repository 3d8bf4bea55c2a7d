/** The document's terms, part 4, sentence by sentence: loads, grades, notes, forged ones, evidence, what towns are paid. */
public final class TermsLoadsTest {
    private TermsLoadsTest() {
    }

    public static void main(String[] args) {
        loadBounds();
        inTheYearInWhichItIsTold();
        partsOfTheSorts();
        outIsCut();
        gradeByMixed();
        noteBounds();
        forgedAboveOut();
        forgedByLoadAndSort();
        evidenceOfNotes();
        evidenceAsKnown();
        evidenceInItsYear();
        shortIsNotBelowNought();
        payIsCut();
        payByTownAndYear();
        payByLawsOfTheYear();
        payParted();
        payPartedAsKnown();
        greatestPay();
        Checks.end();
    }

    private static PacketLaw world(int makers, int schemes) {
        PacketLaw x = new PacketLaw();
        for (int i = 0; i < makers; i++) {
            x.maker();
        }
        for (int i = 0; i < schemes; i++) {
            x.scheme();
        }
        return x;
    }

    private static void loadBounds() {
        Checks.part("LOADS: of a TOWN (0 to 5), kilograms (1 to 20,000), a LOSS (0 to 50 hundredths)");
        PacketLaw x = world(0, 0);
        Checks.law(x, 0, "towns paper 1000;");
        for (int town = 0; town <= 5; town++) {
            int t = town;
            Checks.due("town " + t, t, () -> x.load(t, 100 + t, 100, 0, 0, 0, 0));
        }
        for (int town = 0; town <= 5; town++) {
            int t = town;
            Checks.due("pay of " + t, 100 + t, () -> x.pay(t, 0, -1));
        }
        int[] kilos = {1, 2, 19999, 20000};
        for (int i = 0; i < kilos.length; i++) {
            int load = 6 + i;
            int many = kilos[i];
            Checks.due("a load of " + many, load, () -> x.load(0, many, 100, 0, 0, 0, 0));
            Checks.due("its paper", many, () -> x.out(load, 0));
        }
        int[] losses = {0, 1, 49, 50};
        int[] outs = {1000, 990, 510, 500};
        for (int i = 0; i < losses.length; i++) {
            int load = 10 + i;
            int loss = losses[i];
            Checks.due("a loss of " + loss, load, () -> x.load(0, 1000, 100, 0, 0, 0, loss));
            Checks.due("its paper", outs[i], () -> x.out(load, 0));
        }
    }

    private static void inTheYearInWhichItIsTold() {
        Checks.part("LOADS: in the YEAR in which it is told");
        PacketLaw x = world(1, 0);
        for (int i = 0; i <= 40; i++) {
            int year = i;
            Checks.due("load " + i, year, () -> x.load(0, 1000, 100, 0, 0, 0, 0));
            x.sample(0, 0, year, 1, 1);
            Checks.due("its year", year, () -> x.out(year, 6));
            Checks.due("an earlier one's", 0, () -> x.out(0, 6));
            // one looked at, one found: 1 and 3 times all
            Checks.due("all of that year", 4000, () -> x.span(0, 0, year, 1));
            if (i < 40) {
                x.years(1);
            }
        }
    }

    private static void partsOfTheSorts() {
        Checks.part("parts of the SORTS (hundredths, 100 together)");
        PacketLaw x = world(0, 0);
        int[][] parts = {{0, 0, 0, 0, 100}, {100, 0, 0, 0, 0}, {0, 100, 0, 0, 0}, {0, 0, 100, 0, 0}, {0, 0, 0, 100, 0}, {25, 25, 25, 25, 0}, {1, 2, 3, 4, 90}, {99, 0, 0, 0, 1}, {0, 0, 0, 99, 1}};
        for (int i = 0; i < parts.length; i++) {
            int load = i;
            int[] p = parts[i];
            Checks.due("load " + i, load, () -> x.load(0, 10000, p[0], p[1], p[2], p[3], 0));
            for (int sort = 0; sort < 5; sort++) {
                int s = sort;
                Checks.due("out of " + s, 100 * p[s], () -> x.out(load, s));
            }
        }
        int[][] wrong = {{101, 0, 0, 0}, {100, 1, 0, 0}, {100, 0, 0, 1}, {26, 25, 25, 25}, {0, 51, 50, 0}, {-1, 0, 0, 0}, {0, -1, 0, 0}, {0, 0, -1, 0},
            {0, 0, 0, -1}, {101, -1, 0, 0}, {0, 0, 150, -50}, {Integer.MAX_VALUE, Integer.MAX_VALUE, 2, 0}, {Integer.MIN_VALUE, Integer.MIN_VALUE, 0, 0}};
        for (int[] p : wrong) {
            Checks.dueThrow("parts " + p[0] + " " + p[1] + " " + p[2] + " " + p[3], IllegalArgumentException.class, () -> x.load(0, 100, p[0], p[1], p[2], p[3], 0));
        }
        Checks.due("none of these is a load", parts.length, () -> x.count(6));
    }

    private static void outIsCut() {
        Checks.part("OUT: kilograms times the part, by 100, cut, times (100 less LOSS), by 100, cut");
        // kilograms, part of paper, loss, out
        int[][] rows = {{1, 99, 0, 0}, {1, 100, 0, 1}, {1, 100, 1, 0}, {2, 50, 0, 1}, {2, 100, 50, 1}, {3, 100, 50, 1}, {199, 1, 0, 1}, {200, 1, 0, 2},
            {199, 50, 50, 49}, {101, 100, 1, 99}, {20000, 100, 0, 20000}, {20000, 100, 50, 10000}, {19999, 100, 50, 9999}, {20000, 0, 0, 0},
            // cut twice: 150 * 1 by 100 is 1, and 99 hundredths of it 0; not cut before it would be 1.485
            {150, 1, 1, 0},
            // 999 * 33 by 100 is 329, 87 hundredths of it 286; not cut before it would be 286.8
            {999, 33, 13, 286},
            // 110 * 92 by 100 is 101, 99 hundredths of it 99; not cut before it would be 100.19
            {110, 92, 1, 99}};
        PacketLaw x = world(0, 0);
        for (int i = 0; i < rows.length; i++) {
            int load = i;
            int[] r = rows[i];
            x.load(0, r[0], r[1], 0, 0, 0, r[2]);
            Checks.due(r[0] + " by " + r[1] + ", loss " + r[2], r[3], () -> x.out(load, 0));
        }
        PacketLaw y = world(0, 0);
        // 1999 by 13, 17, 19, 23 and 28 hundredths: 259, 339, 379, 459, 559; 93 hundredths of these
        y.load(0, 1999, 13, 17, 19, 23, 7);
        int[] outs = {240, 315, 352, 426, 519};
        for (int sort = 0; sort < 5; sort++) {
            int s = sort;
            Checks.due("with a loss, of sort " + s, outs[s], () -> y.out(0, s));
        }
        x.load(0, 199, 0, 1, 50, 0, 50);
        Checks.due("each sort by itself: glass 1.99, then 0.5", 0, () -> x.out(rows.length, 1));
        Checks.due("tin 99.5, then 49.5", 49, () -> x.out(rows.length, 2));
        Checks.due("film", 0, () -> x.out(rows.length, 3));
        Checks.due("mixed is the rest: 97.51, then 48.5", 48, () -> x.out(rows.length, 4));
    }

    private static void gradeByMixed() {
        Checks.part("GRADE of a LOAD by its part of mixed: 0 to 5: 0; to 15: 1; to 40: 2; else 3");
        for (int from = 0; from <= 100; from += 50) {
            PacketLaw x = world(0, 0);
            for (int mixed = from; mixed <= Math.min(100, from + 49); mixed++) {
                int load = mixed - from;
                int part = 100 - mixed;
                x.load(0, 100, part / 4, part / 4, part / 4, part - part / 4 * 3, 0);
                Checks.due("mixed " + mixed, mixed <= 5 ? 0 : mixed <= 15 ? 1 : mixed <= 40 ? 2 : 3, () -> x.out(load, 5));
            }
        }
        PacketLaw y = world(0, 0);
        y.load(0, 1, 94, 0, 0, 0, 50);
        Checks.due("by the part, not by what is out", 1, () -> y.out(0, 5));
        Checks.due("nothing is out", 0, () -> y.out(0, 4));
    }

    private static void noteBounds() {
        Checks.part("NOTES: so many kilograms (1 to 20,000)");
        PacketLaw x = world(0, 4);
        for (int i = 0; i < 5; i++) {
            x.load(0, 20000, 0, 0, 0, 100, 0);
        }
        int[] kilos = {1, 2, 19999, 20000};
        for (int i = 0; i < kilos.length; i++) {
            int note = i;
            int many = kilos[i];
            Checks.due("a note of " + many, note, () -> x.note(note, 3, many, note));
            Checks.dueTruth("not forged", false, () -> x.forged(note));
            Checks.due("evidence", many, () -> x.owes(note, 3, 0, 0, 2));
        }
        Checks.dueThrow("of 0", IllegalArgumentException.class, () -> x.note(4, 3, 0, 0));
        Checks.dueThrow("of 20,001", IllegalArgumentException.class, () -> x.note(4, 3, 20001, 0));
        Checks.due("these are none", 4, () -> x.count(7));
        for (int sort = 0; sort < 5; sort++) {
            int s = sort;
            Checks.due("of sort " + s, 4 + s, () -> x.note(4, s, 1, 0));
            Checks.dueTruth("forged, if there is none of it", s != 3, () -> x.forged(4 + s));
        }
    }

    private static void forgedAboveOut() {
        Checks.part("FORGED, if what NOTES ahead of it, that aren't FORGED, tell, and what it tells, are together above OUT");
        PacketLaw x = world(0, 2);
        x.load(0, 100, 100, 0, 0, 0, 0);
        int[] kilos = {101, 100, 1, 20000, 1};
        boolean[] want = {true, false, true, true, true};
        for (int i = 0; i < kilos.length; i++) {
            int note = i;
            x.note(0, 0, kilos[i], i % 2);
            Checks.dueTruth("note " + i + " of " + kilos[i], want[i], () -> x.forged(note));
        }
        Checks.due("forged ones", 4, () -> x.count(8));
        Checks.due("all notes", 5, () -> x.count(7));
        PacketLaw y = world(0, 1);
        y.load(0, 100, 100, 0, 0, 0, 0);
        int[] many = {60, 41, 40, 1};
        boolean[] forged = {false, true, false, true};
        for (int i = 0; i < many.length; i++) {
            int note = i;
            y.note(0, 0, many[i], 0);
            Checks.dueTruth("note " + i + " of " + many[i], forged[i], () -> y.forged(note));
        }
        Checks.due("only those that aren't forged are evidence", 100, () -> y.owes(0, 0, 0, 0, 2));
        PacketLaw z = world(0, 1);
        z.load(0, 1, 0, 0, 0, 0, 50);
        z.note(0, 4, 1, 0);
        Checks.dueTruth("of nothing that is out", true, () -> z.forged(0));
    }

    private static void forgedByLoadAndSort() {
        Checks.part("FORGED: of that LOAD and SORT");
        PacketLaw x = world(0, 2);
        x.load(0, 100, 50, 50, 0, 0, 0);
        x.load(0, 100, 50, 50, 0, 0, 0);
        // load, sort, kilograms, scheme
        int[][] notes = {{0, 0, 50, 0}, {0, 1, 50, 0}, {1, 0, 50, 0}, {1, 1, 50, 0}, {0, 0, 1, 1}, {0, 1, 1, 0}, {1, 0, 1, 1}, {1, 1, 1, 0}};
        for (int i = 0; i < notes.length; i++) {
            int note = i;
            int[] n = notes[i];
            x.note(n[0], n[1], n[2], n[3]);
            Checks.dueTruth("note " + i, i >= 4, () -> x.forged(note));
            x.years(1);
        }
        Checks.dueTruth("the first is not by later ones", false, () -> x.forged(0));
        Checks.dueTruth("a forged one stays so", true, () -> x.forged(4));
        Checks.due("forged ones", 4, () -> x.count(8));
    }

    private static void evidenceOfNotes() {
        Checks.part("EVIDENCE of a SCHEME, SORT, YEAR: NOTES that aren't FORGED; it counts for the YEAR of its LOAD");
        PacketLaw x = world(0, 2);
        x.years(3);
        x.load(0, 1000, 50, 50, 0, 0, 0);
        x.years(1);
        x.load(5, 1000, 50, 50, 0, 0, 0);
        x.note(0, 0, 100, 0);
        x.note(1, 0, 20, 0);
        x.note(0, 0, 3, 0);
        x.note(0, 1, 7, 0);
        x.note(0, 0, 9, 1);
        x.note(0, 0, 389, 0);
        Checks.due("of the first load's year", 103, () -> x.owes(0, 0, 3, 40, 2));
        Checks.due("of the second load's year", 20, () -> x.owes(0, 0, 4, 40, 2));
        Checks.due("of another sort", 7, () -> x.owes(0, 1, 3, 40, 2));
        Checks.due("of another scheme", 9, () -> x.owes(1, 0, 3, 40, 2));
        Checks.due("of another year", 0, () -> x.owes(0, 0, 0, 40, 2));
        Checks.dueTruth("the last one is forged", true, () -> x.forged(5));
        PacketLaw y = world(0, 1);
        for (int i = 0; i < 50; i++) {
            y.load(0, 20000, 100, 0, 0, 0, 0);
            y.note(i, 0, 20000, 0);
            y.note(i, 0, 1, 0);
        }
        Checks.due("fifty loads, fifty notes that aren't forged", 1000000, () -> y.owes(0, 0, 0, 0, 2));
    }

    private static void evidenceAsKnown() {
        Checks.part("EVIDENCE as KNOWN in another one: told, and bought, up to that one");
        PacketLaw x = world(1, 1);
        x.join(0, 0, 0);
        x.declare(0, 0, 0, 1000);
        Checks.law(x, 0, "target paper 100;");
        x.load(0, 1000, 100, 0, 0, 0, 0);
        x.note(0, 0, 10, 0);
        x.years(1);
        x.note(0, 0, 20, 0);
        x.years(1);
        x.offer(0, 970, 3);
        Checks.due("bought", 3, () -> x.buy(0, 0, 0));
        x.years(1);
        x.note(0, 0, 40, 0);
        long[] want = {0, 10, 30, 1000, 1040, 1040};
        long[] bound = {0, 1000, 1000, 1000, 1000, 1000};
        for (int known = -1; known <= 4; known++) {
            int k = known;
            long due = want[known + 1];
            long lacks = Math.max(0, bound[known + 1] - due);
            Checks.due("known in " + k, due, () -> x.owes(0, 0, 0, k, 2));
            Checks.due("short, known in " + k, lacks, () -> x.owes(0, 0, 0, k, 3));
        }
        Checks.due("bought for that year alone", 0, () -> x.owes(0, 0, 2, 3, 2));
    }

    private static void evidenceInItsYear() {
        Checks.part("EVIDENCE and SHORT of a YEAR");
        PacketLaw x = world(1, 2);
        x.join(0, 1, 0);
        x.years(2);
        x.declare(0, 3, 2, 500);
        Checks.law(x, 0, "target film 100;");
        x.load(0, 1000, 0, 0, 0, 100, 0);
        x.note(0, 3, 70, 1);
        x.years(3);
        x.load(0, 1000, 0, 0, 0, 100, 0);
        x.declare(0, 3, 5, 900);
        x.note(1, 3, 200, 1);
        x.note(0, 3, 5, 1);
        Checks.due("of 2, as known in 2", 70, () -> x.owes(1, 3, 2, 2, 2));
        Checks.due("short in 2, as known in 2", 430, () -> x.owes(1, 3, 2, 2, 3));
        Checks.due("of 2, as known in 5", 75, () -> x.owes(1, 3, 2, 5, 2));
        Checks.due("short in 2, as known in 5", 425, () -> x.owes(1, 3, 2, 5, 3));
        Checks.due("of 5", 200, () -> x.owes(1, 3, 5, 5, 2));
        Checks.due("short in 5", 700, () -> x.owes(1, 3, 5, 5, 3));
        Checks.due("of 0", 0, () -> x.owes(1, 3, 0, 5, 2));
        Checks.due("the other scheme", 0, () -> x.owes(0, 3, 2, 5, 2));
    }

    private static void shortIsNotBelowNought() {
        Checks.part("SHORT: BOUND less EVIDENCE, 0 at least");
        PacketLaw x = world(1, 1);
        x.join(0, 0, 0);
        x.declare(0, 0, 0, 100);
        Checks.law(x, 0, "target paper 50;");
        x.load(0, 1000, 100, 0, 0, 0, 0);
        Checks.due("without evidence", 50, () -> x.owes(0, 0, 0, 0, 3));
        x.note(0, 0, 49, 0);
        Checks.due("by one", 1, () -> x.owes(0, 0, 0, 0, 3));
        x.note(0, 0, 1, 0);
        Checks.due("just enough", 0, () -> x.owes(0, 0, 0, 0, 3));
        x.note(0, 0, 1, 0);
        Checks.due("more than enough", 0, () -> x.owes(0, 0, 0, 0, 3));
        Checks.due("it is evidence", 51, () -> x.owes(0, 0, 0, 0, 2));
        x.orphans(0, 0, 10);
        Checks.due("bound to more", 9, () -> x.owes(0, 0, 0, 0, 3));
        Checks.due("what is over for one sort helps no other", 0, () -> x.owes(0, 1, 0, 0, 3));
    }

    private static void payIsCut() {
        Checks.part("PAY: for each SORT: OUT times towns, by 1,000, cut, by (1 and GRADE), cut; all together");
        // part of paper (the rest is mixed), kilograms, towns, pay
        int[][] rows = {{100, 999, 1, 0}, {100, 1000, 1, 1}, {100, 1999, 1, 1}, {95, 1000, 20, 19}, {94, 1000, 20, 9}, {85, 1000, 40, 17},
            {84, 1000, 40, 11}, {60, 1000, 100, 20}, {59, 1000, 100, 14}, {1, 20000, 9999, 499}, {100, 20000, 9999, 199980},
            // 940 times 17 by 1000 is 15, by 2 it is 7
            {94, 1000, 17, 7}, {100, 1000, 0, 0},
            // 50 kilograms at 1000: 50, by 4 it is 12; 99 at 1000: by 2 it is 49, and by 4 24
            {50, 100, 1000, 12}, {90, 110, 1000, 49}, {50, 199, 1000, 24},
            // first by the grade it would be 1 kilogram of 7, and 5 coins
            {50, 14, 5000, 8}};
        for (int[] r : rows) {
            PacketLaw x = world(0, 0);
            Checks.law(x, 0, "towns paper " + r[2] + ";");
            x.load(2, r[1], r[0], 0, 0, 0, 0);
            Checks.due(r[1] + " at " + r[0] + ", towns " + r[2], r[3], () -> x.pay(2, 0, -1));
        }
        PacketLaw y = world(0, 0);
        Checks.law(y, 0, "towns paper 1;towns glass 1;towns tin 1;towns film 1;towns mixed 1;");
        y.load(0, 4000, 24, 24, 24, 24, 0);
        // 960 of each: each is cut by itself
        Checks.due("each sort is cut by itself", 0, () -> y.pay(0, 0, -1));
        y.load(0, 999, 100, 0, 0, 0, 0);
        y.load(0, 999, 100, 0, 0, 0, 0);
        Checks.due("each load is cut by itself", 0, () -> y.pay(0, 0, -1));
        Checks.law(y, 0, "towns paper 3;towns glass 5;towns tin 7;towns film 11;towns mixed 13;");
        // 2.88, 4.8, 6.72, 10.56, 2.08; 2.997 twice
        Checks.due("all together", 28, () -> y.pay(0, 0, -1));
        PacketLaw z = world(0, 0);
        Checks.law(z, 0, "towns mixed 9999;");
        z.load(0, 20000, 0, 0, 0, 0, 50);
        Checks.due("mixed alone, with a loss, by 4: 99990", 24997, () -> z.pay(0, 0, -1));
    }

    private static void payByTownAndYear() {
        Checks.part("PAY of a TOWN for a YEAR: of its LOADS in it");
        PacketLaw x = world(0, 0);
        Checks.law(x, 0, "towns paper 1000;");
        for (int year = 0; year < 3; year++) {
            for (int town = 0; town < 6; town++) {
                x.load(town, 1 + 10 * town + year, 100, 0, 0, 0, 0);
                x.load(town, 1000, 100, 0, 0, 0, 0);
            }
            x.years(1);
        }
        for (int year = 0; year < 3; year++) {
            for (int town = 0; town < 6; town++) {
                int y = year;
                int t = town;
                Checks.due("town " + t + " in " + y, 1001 + 10 * t + y, () -> x.pay(t, y, -1));
            }
        }
        Checks.due("a year without loads", 0, () -> x.pay(0, 3, -1));
        Checks.due("a year to come", 0, () -> x.pay(5, 40, -1));
    }

    private static void payByLawsOfTheYear() {
        Checks.part("PAY: towns, as IN FORCE in that YEAR");
        PacketLaw x = world(0, 0);
        x.load(0, 1000, 100, 0, 0, 0, 0);
        x.years(1);
        x.load(0, 1000, 100, 0, 0, 0, 0);
        Checks.due("without", 0, () -> x.pay(0, 0, -1));
        Checks.law(x, 1, "towns paper 50;");
        Checks.due("not in force", 0, () -> x.pay(0, 0, -1));
        Checks.due("in force", 50, () -> x.pay(0, 1, -1));
        Checks.law(x, 0, "towns paper 60;");
        Checks.due("a later law, from an earlier year", 60, () -> x.pay(0, 1, -1));
        Checks.law(x, 0, "towns glass 70;");
        Checks.due("another sort's", 60, () -> x.pay(0, 0, -1));
    }

    private static void payParted() {
        Checks.part("PAY is PARTED to SCHEMES (coins) by WEIGHTS of all SORTS together");
        PacketLaw x = world(5, 4);
        Checks.law(x, 0, "towns paper 1000;");
        x.load(0, 11, 100, 0, 0, 0, 0);
        for (int s = 0; s < 4; s++) {
            int scheme = s;
            Checks.due("nobody weighs", 0, () -> x.pay(0, 0, scheme));
            x.join(s, s, 0);
        }
        Checks.due("the town has its pay", 11, () -> x.pay(0, 0, -1));
        for (int sort = 0; sort < 4; sort++) {
            x.declare(sort, sort + 1, 0, 1);
        }
        long[] alike = {3, 3, 3, 2};
        for (int s = 0; s < 4; s++) {
            int scheme = s;
            Checks.due("11 by 4 to " + s, alike[s], () -> x.pay(0, 0, scheme));
        }
        x.declare(0, 0, 0, 1);
        // by 5: 4.4 and thrice 2.2: the rests are 2, 1, 1, 1
        long[] more = {5, 2, 2, 2};
        for (int s = 0; s < 4; s++) {
            int scheme = s;
            Checks.due("11 by 5 to " + s, more[s], () -> x.pay(0, 0, scheme));
        }
        x.declare(4, 0, 0, 1000);
        Checks.due("a maker in none does not weigh", 5, () -> x.pay(0, 0, 0));
        Checks.law(x, 0, "orphans schemes;least 2;");
        Checks.due("small ones do not weigh", 11, () -> x.pay(0, 0, 0));
        Checks.due("so they pay nothing", 0, () -> x.pay(0, 0, 1));
        x.declare(3, 4, 0, 2);
        // 11 by 4: 5.5 each
        Checks.due("then by number", 6, () -> x.pay(0, 0, 0));
        Checks.due("then by number", 5, () -> x.pay(0, 0, 3));
        x.join(3, -1, 0);
        Checks.due("one that left does not weigh", 11, () -> x.pay(0, 0, 0));
        PacketLaw y = world(0, 0);
        Checks.due("without schemes", 0, () -> y.pay(0, 0, -1));
        Checks.dueThrow("no such scheme", IndexOutOfBoundsException.class, () -> y.pay(0, 0, 0));
    }

    private static void payPartedAsKnown() {
        Checks.part("PAY is PARTED as KNOWN now");
        PacketLaw x = world(2, 2);
        Checks.law(x, 0, "towns paper 1000;");
        x.load(0, 100, 100, 0, 0, 0, 0);
        x.join(0, 0, 0);
        x.join(1, 1, 0);
        x.declare(0, 0, 0, 30);
        x.declare(1, 0, 0, 10);
        Checks.due("known in 0", 75, () -> x.pay(0, 0, 0));
        x.years(1);
        x.declare(1, 4, 0, 20);
        Checks.due("known in 1", 50, () -> x.pay(0, 0, 0));
        x.declare(0, 0, 1, 90);
        x.join(0, 1, 1);
        Checks.due("who is in it in that year, by what is declared for it", 50, () -> x.pay(0, 0, 1));
    }

    private static void greatestPay() {
        Checks.part("the greatest PAY");
        PacketLaw x = world(10, 2);
        Checks.law(x, 0, "towns paper 9999;");
        for (int i = 0; i < 60; i++) {
            x.load(5, 20000, 100, 0, 0, 0, 0);
        }
        for (int m = 0; m < 10; m++) {
            x.join(m, m < 3 ? 0 : 1, 0);
            for (int sort = 0; sort < 5; sort++) {
                x.declare(m, sort, 0, 10000000);
            }
        }
        Checks.due("of the town", 11998800L, () -> x.pay(5, 0, -1));
        Checks.due("three tenths", 3599640L, () -> x.pay(5, 0, 0));
        Checks.due("seven tenths", 8399160L, () -> x.pay(5, 0, 1));
    }
}
