import java.util.List;
import java.util.NoSuchElementException;

/** Of each thing that has so many places: the last place is taken and counts, and one more asked for changes nothing. */
public final class LastPlacesTest {
    private static final Class<IllegalStateException> STATE = IllegalStateException.class;
    private static final Class<IllegalArgumentException> ARGUMENT = IllegalArgumentException.class;

    private LastPlacesTest() {
    }

    public static void main(String[] args) {
        years();
        tape();
        laws();
        lawsOfSixteenClauses();
        makers();
        packets();
        makes();
        declared();
        schemes();
        joins();
        loads();
        notes();
        offers();
        samples();
        all();
        Checks.end();
    }

    private interface World {
        PacketLaw made();
    }

    /** One more is asked for: the answer is -1, and the object shows what it shows without. */
    private static void oneMore(String call, World world, CallOn more) {
        PacketLaw asked = world.made();
        Checks.due(call, -1, () -> more.answer(asked));
        unchanged(call, world, asked);
    }

    private static void unchanged(String call, World world, PacketLaw asked) {
        List<String> want = Shown.of(world.made());
        List<String> got = Shown.of(asked);
        for (int i = 0; i < want.size(); i++) {
            Checks.judge("behind " + call, want.get(i), got.get(i));
        }
    }

    private interface CallOn {
        long answer(PacketLaw x);
    }

    private static PacketLaw small() {
        PacketLaw x = new PacketLaw();
        x.maker();
        x.scheme();
        x.packet(0);
        x.make(0, 10, 0, 0, 0, 0, 5);
        x.sold(0, 0, 100, 0, 1);
        x.join(0, 0, 0);
        x.load(0, 1000, 100, 0, 0, 0, 0);
        return x;
    }

    private static void years() {
        Checks.part("YEARS: 40");
        World full = () -> {
            PacketLaw x = small();
            x.years(40);
            return x;
        };
        for (int years : new int[] {1, 40}) {
            PacketLaw x = full.made();
            Checks.dueThrow("years(" + years + ")", STATE, () -> x.years(years));
            unchanged("years(" + years + ")", full, x);
        }
        PacketLaw x = full.made();
        x.declare(0, 4, 40, 77);
        x.sample(0, 4, 40, 10, 10);
        x.load(5, 1000, 0, 0, 0, 0, 0);
        x.sold(0, 40, 9, 0, 1);
        x.join(0, -1, 40);
        x.orphans(4, 40, 3);
        Checks.law(x, 40, "fee mixed=1000;");
        Checks.due("declared", 77, () -> x.declared(0, 4, 40, 40));
        Checks.due("fee", 77, () -> x.fee(0, 40, 40));
        Checks.due("billed", 77, () -> x.bill(0, 40));
        Checks.due("span", 300, () -> x.span(0, 4, 40, 0));
        Checks.due("shyest", 4, () -> x.shyest(40));
        Checks.due("kilos", 90, () -> x.kilos(0, 0, 40));
        Checks.due("in", -1, () -> x.in(0, 40));
        Checks.due("orphans", 3, () -> x.orphans(4, 40, 4));
        Checks.due("out", 40, () -> x.out(1, 6));
    }

    private static void tape() {
        Checks.part("the TAPE: 400 bytes");
        World full = () -> {
            PacketLaw x = small();
            Checks.put(x, Checks.times(" ", 392) + "least 9;");
            return x;
        };
        oneMore("feed", full, x -> x.feed(0x3f3f3f3f, 0x3f3f3f3f, 0x3f3f3f3f, 0x3f3f3f3f, 0x3f3f3f3f));
        oneMore("feed of zeros", full, x -> x.feed(0, 0, 0, 0, 0));
        PacketLaw x = full.made();
        Checks.due("400", 400, () -> x.count(11));
        Checks.due("all are read", 0, () -> x.law(0, 400));
        Checks.due("to the last byte", 9, () -> x.tells(0, 0, 3));
        Checks.due("there is room again", 20, () -> x.feed(0, 0, 0, 0, 0));
    }

    private static void laws() {
        Checks.part("LAWS: 10");
        World full = () -> {
            PacketLaw x = small();
            x.declare(0, 0, 0, 1000);
            for (int i = 0; i < 10; i++) {
                Checks.law(x, 0, "fee paper=" + i + ";least " + i + ";");
            }
            return x;
        };
        oneMore("law", full, x -> Checks.law(x, 0, "fee paper=99;least 99;"));
        oneMore("law with a fault", full, x -> Checks.law(x, 0, "fee?"));
        oneMore("law without text", full, x -> x.law(40, 0));
        PacketLaw x = full.made();
        Checks.due("the last counts", 9, () -> x.fee(0, 0, 0));
        Checks.due("why", 900, () -> x.why(0, 0));
        Checks.due("a text is tried behind it", 99, () -> Checks.tried(x, 0, 0, "fee paper=99;"));
        Checks.due("and is none of them", 900, () -> x.why(0, 0));
        Checks.due("a fault of a text that is tried", -9, () -> Checks.tried(x, 0, 0, "fee?"));
        Checks.due("its place", 3, x::fault);
        Checks.due("not read: no fault", -1, () -> Checks.law(x, 0, "fee?"));
        Checks.due("no fault", -1, x::fault);
        Checks.due("the tape is empty", 0, () -> x.count(11));
        Checks.put(x, "least 5;");
        Checks.dueThrow("a year that is none", ARGUMENT, () -> x.law(41, 8));
        Checks.dueThrow("more than the tape has", ARGUMENT, () -> x.law(0, 21));
        Checks.due("the tape is kept", 20, () -> x.count(11));
    }

    private static void lawsOfSixteenClauses() {
        Checks.part("CLAUSES: 16, of each of ten LAWS");
        PacketLaw x = small();
        x.declare(0, 4, 0, 1000);
        for (int i = 0; i < 10; i++) {
            int law = i;
            Checks.due("law " + i, law, () -> Checks.law(x, law, Checks.times("ban tin if 1=2;", 14) + "fee paper=" + law + ";fee mixed=" + (50 + law) + ";"));
        }
        for (int i = 0; i < 10; i++) {
            int year = i;
            Checks.due("why of paper in " + i, 100 * year + 14, () -> x.why(year, 0));
            Checks.due("why of mixed in " + i, 100 * year + 15, () -> x.why(year, 4));
        }
        Checks.due("the first law's", 50, () -> x.fee(0, 0, 0));
        x.years(9);
        x.declare(0, 4, 9, 1000);
        Checks.due("the last law's", 59, () -> x.fee(0, 9, 9));
        Checks.due("sixteen more are tried", 8, () -> Checks.tried(x, 0, 9, Checks.times("fee mixed=9;", 15) + "fee mixed=8;"));
        Checks.due("the last law's still", 59, () -> x.fee(0, 9, 9));
        // ten laws of the longest sums
        PacketLaw y = small();
        y.declare(0, 0, 0, 1000);
        for (int i = 0; i < 10; i++) {
            String text = "fee paper=" + i + Checks.times("+1", 194) + ";";
            Checks.due("law " + i, i, () -> Checks.law(y, 0, text));
            Checks.due("its value", 194 + i, () -> y.fee(0, 0, 0));
        }
        Checks.due("the longest one is tried", 203, () -> Checks.tried(y, 0, 0, "fee paper=9" + Checks.times("+1", 194) + ";"));
        Checks.due("the last law's still", 203, () -> y.fee(0, 0, 0));
    }

    private static void makers() {
        Checks.part("MAKERS: 10");
        World full = () -> {
            PacketLaw x = new PacketLaw();
            for (int i = 0; i < 10; i++) {
                x.maker();
            }
            x.scheme();
            x.join(9, 0, 0);
            x.declare(9, 4, 0, 50);
            return x;
        };
        PacketLaw asked = full.made();
        Checks.dueThrow("an eleventh", STATE, asked::maker);
        unchanged("maker()", full, asked);
        PacketLaw fresh = new PacketLaw();
        for (int i = 0; i < 10; i++) {
            Checks.due("numbered from 0 on", i, fresh::maker);
        }
        Checks.dueThrow("an eleventh", STATE, fresh::maker);
        PacketLaw x = full.made();
        Checks.due("the last has a fee", 5, () -> x.fee(9, 0, 0));
        Checks.due("is billed", 5, () -> x.bill(9, 0));
        Checks.due("weighs", 50, () -> x.owes(0, 4, 0, 0, 0));
        Checks.due("has packets", 0, () -> x.packet(9));
        x.orphans(4, 0, 7);
        Checks.due("has orphans", 7, () -> x.owes(0, 4, 0, 0, 4));
        x.load(0, 1000, 0, 0, 0, 0, 0);
        x.sample(9, 4, 0, 10, 10);
        Checks.due("is shy", 94, () -> x.shyest(0));
        Checks.dueThrow("there is no eleventh", NoSuchElementException.class, () -> x.fee(10, 0, 0));
    }

    private static void packets() {
        Checks.part("PACKETS: 20");
        World full = () -> {
            PacketLaw x = new PacketLaw();
            x.maker();
            x.maker();
            for (int i = 0; i < 20; i++) {
                x.packet(i == 19 ? 1 : 0);
                x.make(i, 1, 0, 0, 0, 1, 1);
                x.sold(i, 0, 1, 0, 1);
            }
            return x;
        };
        oneMore("packet of the first maker", full, x -> x.packet(0));
        oneMore("packet of the last maker", full, x -> x.packet(1));
        PacketLaw x = full.made();
        Checks.due("the last has makes", 1, () -> x.make(19, 0, 0, 0, 0, 200, 1000));
        Checks.due("is made", 0, () -> x.made(19, 1));
        Checks.due("is sold", 0, () -> x.sold(19, 40, 1000, 0, 1));
        Checks.due("has kilos", 200000, () -> x.kilos(19, 4, 40));
        Checks.due("is its maker's", 200000, () -> x.truly(1, 4, 40));
        Checks.due("not another's", 0, () -> x.truly(0, 4, 40));
        Checks.due("its cheapest make", 0, () -> x.cheapest(1, 40, 0));
        Checks.law(x, 0, "ban paper;");
        Checks.due("its lawful make", 1, () -> x.cheapest(1, 40, 0));
        Checks.dueTruth("its first one is banned", true, () -> x.banned(19, 0, 40));
        Checks.dueThrow("there is no 21st", NoSuchElementException.class, () -> x.kilos(20, 0, 0));
    }

    private static void makes() {
        Checks.part("MAKES: 5");
        World full = () -> {
            PacketLaw x = new PacketLaw();
            x.maker();
            x.packet(0);
            x.packet(0);
            x.make(1, 77, 0, 0, 0, 0, 9);
            for (int i = 0; i < 5; i++) {
                x.make(0, 10 * i, 0, 0, 0, 0, 20 - 2 * i);
            }
            x.sold(0, 0, 1, 0, 1);
            x.sold(1, 0, 1, 0, 1);
            return x;
        };
        oneMore("make", full, x -> x.make(0, 200, 200, 200, 200, 200, 0));
        oneMore("make of nothing", full, x -> x.make(0, 0, 0, 0, 0, 0, 0));
        PacketLaw x = full.made();
        Checks.due("the last is made", 0, () -> x.made(0, 4));
        Checks.due("its kilos", 40, () -> x.kilos(0, 0, 0));
        Checks.due("it is the cheapest", 4, () -> x.cheapest(0, 0, 0));
        Checks.due("of both packets", 32, () -> x.cheapest(0, 0, -1));
        Checks.due("another packet has room", 1, () -> x.make(1, 1, 0, 0, 0, 0, 0));
        Checks.dueThrow("there is no sixth", ARGUMENT, () -> x.made(0, 5));
        Checks.dueThrowOfTruth("there is no sixth", ARGUMENT, () -> x.banned(0, 5, 0));
    }

    private static void declared() {
        Checks.part("DECLARED: 200 times");
        World full = () -> {
            PacketLaw x = new PacketLaw();
            for (int i = 0; i < 10; i++) {
                x.maker();
            }
            for (int i = 0; i < 200; i++) {
                x.declare(i % 10, i / 10 % 5, 0, i);
            }
            return x;
        };
        oneMore("declare of the first", full, x -> x.declare(0, 0, 0, 12345));
        oneMore("declare of the last", full, x -> x.declare(9, 4, 0, 0));
        oneMore("declare as it is", full, x -> x.declare(9, 4, 0, 199));
        PacketLaw x = full.made();
        Checks.due("the last counts", 199, () -> x.declared(9, 4, 0, 0));
        Checks.due("the one before", 198, () -> x.declared(8, 4, 0, 0));
        Checks.due("those told anew", 150, () -> x.declared(0, 0, 0, 0));
        Checks.dueThrow("of no such year", ARGUMENT, () -> x.declare(0, 0, 1, 0));
        Checks.dueThrow("of no such maker", NoSuchElementException.class, () -> x.declare(10, 0, 0, 0));
        x.years(1);
        Checks.due("in another year neither", -1, () -> x.declare(0, 0, 1, 1));
    }

    private static void schemes() {
        Checks.part("SCHEMES: 4");
        World full = () -> {
            PacketLaw x = new PacketLaw();
            x.maker();
            for (int i = 0; i < 4; i++) {
                x.scheme();
            }
            x.join(0, 3, 0);
            x.declare(0, 0, 0, 100);
            Checks.law(x, 0, "target paper 100;towns paper 100;orphans schemes;");
            x.load(0, 1000, 100, 0, 0, 0, 0);
            return x;
        };
        PacketLaw asked = full.made();
        Checks.dueThrow("a fifth", STATE, asked::scheme);
        unchanged("scheme()", full, asked);
        PacketLaw fresh = new PacketLaw();
        for (int i = 0; i < 4; i++) {
            Checks.due("numbered from 0 on", i, fresh::scheme);
        }
        Checks.dueThrow("a fifth", STATE, fresh::scheme);
        PacketLaw x = full.made();
        Checks.due("the last is joined", 3, () -> x.in(0, 0));
        Checks.due("weighs", 100, () -> x.owes(3, 0, 0, 0, 0));
        Checks.due("is short", 100, () -> x.owes(3, 0, 0, 0, 3));
        x.orphans(0, 0, 9);
        Checks.due("has orphans", 9, () -> x.owes(3, 0, 0, 0, 4));
        Checks.due("pays the town", 100, () -> x.pay(0, 0, 3));
        Checks.due("has notes", 0, () -> x.note(0, 0, 50, 3));
        Checks.due("has evidence", 50, () -> x.owes(3, 0, 0, 0, 2));
        x.offer(0, 59, 7);
        Checks.due("buys", 7, () -> x.buy(3, 0, 0));
        Checks.due("has paid", 7, () -> x.paid(3));
        Checks.dueThrow("there is no fifth", IndexOutOfBoundsException.class, () -> x.paid(4));
        Checks.dueThrow("there is no fifth to join", IndexOutOfBoundsException.class, () -> x.join(0, 4, 0));
    }

    private static void joins() {
        Checks.part("joining: 60 times of all MAKERS");
        World full = () -> {
            PacketLaw x = new PacketLaw();
            x.maker();
            x.maker();
            x.scheme();
            x.scheme();
            for (int i = 0; i < 59; i++) {
                x.join(0, i % 2, 0);
            }
            x.join(1, 1, 3);
            return x;
        };
        oneMore("join of the first", full, x -> x.join(0, 1, 0));
        oneMore("join of the last", full, x -> x.join(1, 0, 3));
        oneMore("join of none", full, x -> x.join(1, -1, 40));
        PacketLaw x = full.made();
        Checks.due("the last counts", 1, () -> x.in(1, 3));
        Checks.due("from its year on", -1, () -> x.in(1, 2));
        Checks.due("the one before", 0, () -> x.in(0, 0));
        Checks.due("how often", 60, () -> x.count(12));
    }

    private static void loads() {
        Checks.part("LOADS: 60");
        World full = () -> {
            PacketLaw x = new PacketLaw();
            x.maker();
            x.scheme();
            for (int i = 0; i < 60; i++) {
                x.load(i == 59 ? 5 : 0, 1000 + i, i == 59 ? 0 : 100, 0, 0, 0, 0);
            }
            Checks.law(x, 0, "towns mixed 1000;");
            return x;
        };
        oneMore("load", full, x -> x.load(5, 20000, 0, 0, 0, 0, 0));
        oneMore("load of another town", full, x -> x.load(1, 1, 100, 0, 0, 0, 0));
        PacketLaw x = full.made();
        Checks.due("the last one's mixed", 1059, () -> x.out(59, 4));
        Checks.due("its grade", 3, () -> x.out(59, 5));
        Checks.due("the one before", 1058, () -> x.out(58, 0));
        Checks.due("its town is paid", 264, () -> x.pay(5, 0, -1));
        Checks.due("a note of it", 0, () -> x.note(59, 4, 1059, 0));
        Checks.dueTruth("is not forged", false, () -> x.forged(0));
        x.sample(0, 4, 0, 1, 0);
        Checks.due("it is all there is of mixed", 1059, () -> x.span(0, 4, 0, 1));
        Checks.dueThrow("there is no 61st", IndexOutOfBoundsException.class, () -> x.out(60, 0));
        Checks.dueThrow("no note of a 61st", IndexOutOfBoundsException.class, () -> x.note(60, 0, 1, 0));
        x.years(1);
        Checks.due("in another year neither", -1, () -> x.load(0, 1, 0, 0, 0, 0, 0));
    }

    private static void notes() {
        Checks.part("NOTES: 100");
        World full = () -> {
            PacketLaw x = new PacketLaw();
            x.scheme();
            x.scheme();
            x.load(0, 20000, 100, 0, 0, 0, 0);
            for (int i = 0; i < 99; i++) {
                x.note(0, 0, i == 50 ? 20000 : 1, 0);
            }
            x.note(0, 0, 19902, 1);
            return x;
        };
        oneMore("note", full, x -> x.note(0, 0, 1, 0));
        oneMore("note that would be forged", full, x -> x.note(0, 4, 1, 1));
        PacketLaw x = full.made();
        Checks.dueTruth("the last is not forged", false, () -> x.forged(99));
        Checks.due("it is evidence", 19902, () -> x.owes(1, 0, 0, 0, 2));
        Checks.due("those before", 98, () -> x.owes(0, 0, 0, 0, 2));
        Checks.due("one is forged", 1, () -> x.count(8));
        Checks.dueThrowOfTruth("there is no 101st", IndexOutOfBoundsException.class, () -> x.forged(100));
    }

    private static void offers() {
        Checks.part("OFFERS: 12");
        World full = () -> {
            PacketLaw x = small();
            x.declare(0, 0, 0, 100);
            Checks.law(x, 0, "target paper 100;");
            for (int i = 0; i < 12; i++) {
                x.offer(i == 0 || i == 11 ? 0 : 1, 100, 20 - i);
            }
            return x;
        };
        oneMore("offer", full, x -> x.offer(0, 100, 0));
        PacketLaw x = full.made();
        Checks.due("the last is the cheapest", 2048, () -> x.buying(0, 0, 0, 1));
        Checks.due("its price", 9, () -> x.buy(0, 0, 0));
        Checks.due("11 are left", 11, () -> x.count(9));
        Checks.due("there were 12 still", -1, () -> x.offer(0, 100, 0));
        Checks.due("11 are left", 11, () -> x.count(9));
        Checks.due("it is evidence", 100, () -> x.owes(0, 0, 0, 0, 2));
    }

    private static void samples() {
        Checks.part("SAMPLES: 60");
        World full = () -> {
            PacketLaw x = small();
            x.years(3);
            for (int i = 0; i < 59; i++) {
                x.sample(0, 4, 3, 10, 5);
            }
            x.load(0, 1000, 100, 0, 0, 0, 0);
            x.sample(0, 0, 3, 10, 10);
            return x;
        };
        oneMore("sample", full, x -> x.sample(0, 0, 3, 10, 0));
        oneMore("sample of another sort", full, x -> x.sample(0, 1, 0, 1000, 1000));
        PacketLaw x = full.made();
        Checks.due("the last counts", 300, () -> x.span(0, 0, 3, 0));
        Checks.due("shy", 300, () -> x.shy(0, 0, 3));
        Checks.dueThrow("one that is none such", ARGUMENT, () -> x.sample(0, 0, 4, 1, 0));
    }

    private static void all() {
        Checks.part("all places but those of what is told are taken");
        PacketLaw x = new PacketLaw();
        for (int i = 0; i < 10; i++) {
            x.maker();
        }
        for (int i = 0; i < 20; i++) {
            x.packet(i / 2);
        }
        for (int i = 0; i < 100; i++) {
            x.make(i % 20, 200, i / 20, 0, 0, 0, 1000 - i / 20);
        }
        for (int i = 0; i < 4; i++) {
            x.scheme();
        }
        for (int i = 0; i < 60; i++) {
            x.join(i % 10, i % 4, i % 6);
        }
        x.load(0, 20000, 100, 0, 0, 0, 0);
        for (int i = 0; i < 100; i++) {
            x.note(0, 0, 200, i % 4);
        }
        long[] want = {0, 0, 10, 20, 0, 4, 1, 100, 0, 0, 0, 0, 60};
        for (int what = 0; what < want.length; what++) {
            int w = what;
            Checks.due("count(" + w + ")", want[w], () -> x.count(w));
        }
        Checks.due("evidence of the last", 5000, () -> x.owes(3, 0, 0, 0, 2));
        x.sold(19, 40, 1000, 0, 1);
        x.sold(18, 40, 1000, 0, 1);
        // 996 coins for a thousand of each, 4 grams of glass, 200 of paper
        Checks.due("the cheapest of the last maker", 2032800, () -> x.cheapest(9, 40, -1));
        Checks.due("the last make of its second packet", 4, () -> x.cheapest(9, 40, 1));
    }
}
