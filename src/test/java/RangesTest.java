import java.lang.reflect.InvocationTargetException;
import java.lang.reflect.Method;
import java.util.HashSet;
import java.util.List;
import java.util.NoSuchElementException;
import java.util.Set;

/**
 * Each argument of each call: the least and the greatest value that is allowed answer, those just outside and far
 * outside are refused with the exception that the promise names, and a call that is refused changes nothing.
 */
public final class RangesTest {
    private static final Class<? extends RuntimeException> ARGUMENT = IllegalArgumentException.class;
    private static final Class<? extends RuntimeException> STATE = IllegalStateException.class;
    private static final Class<? extends RuntimeException> INDEX = IndexOutOfBoundsException.class;
    private static final Class<? extends RuntimeException> NO_SUCH = NoSuchElementException.class;
    private static final int NOW = 3;

    private static final Set<String> TESTED = new HashSet<>();
    private static List<String> asItWas;

    /** What is allowed of an argument, and how the others are refused; null: any number is allowed. */
    private record Range(int least, int greatest, Class<? extends RuntimeException> refused) {
    }

    private static final Range MAKER = new Range(0, 2, NO_SUCH);
    private static final Range PACKET = new Range(0, 2, NO_SUCH);
    private static final Range SCHEME = new Range(0, 1, INDEX);
    private static final Range SCHEME_OR_NONE = new Range(-1, 1, INDEX);
    private static final Range LOAD = new Range(0, 1, INDEX);
    private static final Range SORT = new Range(0, 4, ARGUMENT);
    private static final Range YEAR = new Range(0, 40, ARGUMENT);
    private static final Range YEAR_UP_TO_NOW = new Range(0, NOW, ARGUMENT);
    private static final Range GRAMS = new Range(0, 200, ARGUMENT);
    private static final Range PART = new Range(0, 100, ARGUMENT);
    private static final Range BYTES = new Range(0, 20, ARGUMENT);
    private static final Range MAKE = new Range(0, 1, ARGUMENT);
    private static final Range FREE = new Range(Integer.MIN_VALUE, Integer.MAX_VALUE, null);

    private RangesTest() {
    }

    public static void main(String[] args) throws ReflectiveOperationException {
        asItWas = Shown.of(world());
        lawsAndPackets();
        makers();
        schemesAndLoads();
        offersAndSamples();
        withoutArguments();
        yearsGoBy();
        withoutMakes();
        abroadAndFound();
        Checks.part("all");
        for (Method m : PacketLaw.class.getDeclaredMethods()) {
            if (java.lang.reflect.Modifier.isPublic(m.getModifiers())) {
                Checks.judge(m.getName() + " is tested", "true", String.valueOf(TESTED.contains(m.getName())));
            }
        }
        Checks.end();
    }

    /** Year 3, something of everything, twenty bytes on the tape. */
    private static PacketLaw world() {
        PacketLaw x = new PacketLaw();
        Checks.law(x, 0, "fee paper=kilos/9+layers;target paper 50;off glass 40;towns paper 70;trips 3;");
        Checks.law(x, 2, "ban mixed if grams>5;least 20;");
        x.years(2);
        for (int i = 0; i < 3; i++) {
            x.maker();
            x.packet(i % 2);
            x.make(i, 10 + i, 20, 0, 0, i, 30);
            x.make(i, 9, 0, 3, 0, 7, 40);
            x.sold(i, 3, 100, 20, 2);
            x.sold(i, 0, 50, 0, 1);
        }
        x.scheme();
        x.scheme();
        x.join(0, 0, 0);
        x.join(1, 1, 3);
        x.declare(0, 0, 0, 700);
        x.years(1);
        x.declare(0, 0, 0, 800);
        x.declare(1, 0, 3, 900);
        x.orphans(0, 3, 15);
        x.load(0, 1000, 60, 20, 0, 0, 10);
        x.load(5, 500, 95, 0, 0, 0, 0);
        x.note(0, 0, 30, 1);
        x.note(0, 4, 999, 0);
        x.offer(0, 300, 5);
        x.offer(0, 400, 6);
        x.sample(0, 0, 3, 10, 9);
        x.sample(1, 4, 3, 50, 20);
        x.bill(0, 0);
        Checks.law(x, 0, "fee tin=10000;");
        Checks.put(x, "least 55;           ");
        return x;
    }

    private static Method methodOf(String name) throws NoSuchMethodException {
        for (Method m : PacketLaw.class.getDeclaredMethods()) {
            if (m.getName().equals(name) && java.lang.reflect.Modifier.isPublic(m.getModifiers())) {
                return m;
            }
        }
        throw new NoSuchMethodException(name);
    }

    private static String answer(PacketLaw x, String name, int... args) throws ReflectiveOperationException {
        Object[] all = new Object[args.length];
        for (int i = 0; i < args.length; i++) {
            all[i] = args[i];
        }
        try {
            return String.valueOf(methodOf(name).invoke(x, all));
        } catch (InvocationTargetException e) {
            return "throws." + e.getCause().getClass().getName();
        }
    }

    private static String told(String name, int[] args) {
        return name + java.util.Arrays.toString(args);
    }

    private static int[] with(int[] args, int at, int value) {
        int[] all = args.clone();
        all[at] = value;
        return all;
    }

    private static void answers(String name, int... args) throws ReflectiveOperationException {
        String got = answer(world(), name, args);
        Checks.judge(told(name, args), "an answer", got.startsWith("throws") ? got : "an answer");
    }

    private static void refused(Class<? extends RuntimeException> how, String name, int... args) throws ReflectiveOperationException {
        PacketLaw x = world();
        Checks.judge(told(name, args), "throws." + how.getName(), answer(x, name, args));
        List<String> shown = Shown.of(x);
        for (int i = 0; i < shown.size(); i++) {
            if (!shown.get(i).equals(asItWas.get(i))) {
                Checks.judge(told(name, args) + " changes nothing", asItWas.get(i), shown.get(i));
                return;
            }
        }
        Checks.judge(told(name, args) + " changes nothing", "true", "true");
    }

    private static int[] outside(Range range) {
        return new int[] {range.least - 1, range.greatest + 1, Integer.MIN_VALUE, Integer.MAX_VALUE, range.least - 1000, range.greatest + 100000};
    }

    /** The call with these arguments answers; each argument is tried at and outside its range. */
    private static void call(String name, int[] fits, Range... ranges) throws ReflectiveOperationException {
        Checks.part(name);
        TESTED.add(name);
        answers(name, fits);
        for (int i = 0; i < ranges.length; i++) {
            answers(name, with(fits, i, ranges[i].least));
            answers(name, with(fits, i, ranges[i].greatest));
            if (ranges[i].refused != null) {
                for (int value : outside(ranges[i])) {
                    refused(ranges[i].refused, name, with(fits, i, value));
                }
                twoOutside(name, fits, i, ranges);
            }
        }
    }

    /** Of two arguments outside, the exception comes that stands first behind "throws". */
    private static void twoOutside(String name, int[] fits, int first, Range... ranges) throws ReflectiveOperationException {
        List<Class<?>> order = List.of(methodOf(name).getExceptionTypes());
        for (int i = first + 1; i < ranges.length; i++) {
            if (ranges[i].refused != null) {
                int[] args = with(with(fits, first, ranges[first].greatest + 1), i, ranges[i].least - 1);
                boolean sooner = order.indexOf(ranges[first].refused) <= order.indexOf(ranges[i].refused);
                refused(sooner ? ranges[first].refused : ranges[i].refused, name, args);
            }
        }
    }

    private static int[] of(int... args) {
        return args;
    }

    private static void lawsAndPackets() throws ReflectiveOperationException {
        call("law", of(0, 9), YEAR, BYTES);
        call("tells", of(1, 1, 1), YEAR, SORT, new Range(0, 5, ARGUMENT));
        call("why", of(1, 1), YEAR, SORT);
        call("packet", of(1), MAKER);
        call("make", of(1, 1, 1, 1, 1, 1, 1), PACKET, GRAMS, GRAMS, GRAMS, GRAMS, GRAMS, new Range(0, 1000, ARGUMENT));
        call("made", of(1, 0), PACKET, MAKE);
        call("sold", of(1, 1, 500, 0, 1), PACKET, YEAR, new Range(0, 1000, ARGUMENT), new Range(0, 500, ARGUMENT), new Range(1, 50, ARGUMENT));
        call("kilos", of(1, 1, 1), PACKET, SORT, YEAR);
        call("banned", of(1, 0, 1), PACKET, MAKE, YEAR);
    }

    private static void makers() throws ReflectiveOperationException {
        call("truly", of(1, 1, 1), MAKER, SORT, YEAR);
        call("declare", of(1, 1, 1, 1), MAKER, SORT, YEAR_UP_TO_NOW, new Range(0, 10000000, ARGUMENT));
        call("declared", of(1, 1, 1, 1), MAKER, SORT, YEAR, FREE);
        call("small", of(1, 1, 1), MAKER, YEAR, FREE);
        call("fee", of(1, 1, 1), MAKER, YEAR, FREE);
        call("bill", of(1, 1), MAKER, YEAR);
        call("tried", of(1, 1, 9), MAKER, YEAR, BYTES);
        call("cheapest", of(1, 1, 0), MAKER, YEAR, new Range(-1, 4, ARGUMENT));
        call("join", of(1, 0, 1), MAKER, SCHEME_OR_NONE, YEAR);
        call("in", of(1, 1), MAKER, YEAR);
    }

    private static void schemesAndLoads() throws ReflectiveOperationException {
        call("owes", of(1, 1, 1, 1, 1), SCHEME, SORT, YEAR, FREE, new Range(0, 4, ARGUMENT));
        call("orphans", of(1, 1, 1), SORT, YEAR, new Range(0, 1000000, ARGUMENT));
        call("load", of(1, 1, 0, 0, 0, 0, 0), new Range(0, 5, ARGUMENT), new Range(1, 20000, ARGUMENT), PART, PART, PART, PART, new Range(0, 50, ARGUMENT));
        call("load", of(1, 1, 40, 30, 20, 5, 0), new Range(0, 5, ARGUMENT), new Range(1, 20000, ARGUMENT),
            new Range(0, 45, ARGUMENT), new Range(0, 35, ARGUMENT), new Range(0, 25, ARGUMENT), new Range(0, 10, ARGUMENT));
        call("out", of(1, 1), LOAD, new Range(0, 6, ARGUMENT));
        call("note", of(1, 1, 1, 1), LOAD, SORT, new Range(1, 20000, ARGUMENT), SCHEME);
        call("forged", of(1), new Range(0, 1, INDEX));
        call("pay", of(1, 1, 1), new Range(0, 5, ARGUMENT), YEAR, SCHEME_OR_NONE);
    }

    private static void offersAndSamples() throws ReflectiveOperationException {
        call("offer", of(1, 1, 1), SORT, new Range(1, 100000, ARGUMENT), new Range(0, 100000, ARGUMENT));
        call("buying", of(1, 1, 1, 1), SCHEME, SORT, YEAR, new Range(0, 1, ARGUMENT));
        call("buy", of(1, 1, 1), SCHEME, SORT, YEAR);
        call("paid", of(1), SCHEME);
        call("sample", of(1, 1, 1, 10, 0), MAKER, SORT, YEAR_UP_TO_NOW, new Range(1, 1000, ARGUMENT), new Range(0, 10, ARGUMENT));
        call("span", of(1, 1, 1, 1), MAKER, SORT, YEAR, new Range(0, 1, ARGUMENT));
        call("shy", of(1, 1, 1), MAKER, SORT, YEAR);
        call("shyest", of(1), YEAR);
        call("worth", of(1, 1), MAKER, YEAR);
        call("count", of(1), FREE);
        call("feed", of(1, 1, 1, 1, 1), FREE, FREE, FREE, FREE, FREE);
    }

    private static void withoutArguments() throws ReflectiveOperationException {
        for (String name : new String[] {"fault", "maker", "scheme"}) {
            Checks.part(name);
            TESTED.add(name);
            answers(name);
        }
        Checks.part("count");
        for (int what : new int[] {-1, 13, 14, 1000, Integer.MIN_VALUE, Integer.MAX_VALUE}) {
            Checks.judge("count(" + what + ")", "-1", answer(world(), "count", what));
        }
    }

    private static void yearsGoBy() throws ReflectiveOperationException {
        Checks.part("years");
        TESTED.add("years");
        answers("years", 0);
        answers("years", 40 - NOW);
        for (int years : new int[] {-1, 41, Integer.MIN_VALUE, Integer.MAX_VALUE, Integer.MAX_VALUE - 2}) {
            refused(ARGUMENT, "years", years);
        }
        refused(STATE, "years", 41 - NOW);
        refused(STATE, "years", 40);
    }

    private static void withoutMakes() {
        Checks.part("a packet without makes");
        PacketLaw x = world();
        x.packet(0);
        for (int make : new int[] {-1, 0, 1}) {
            Checks.dueThrow("made(3," + make + ")", ARGUMENT, () -> x.made(3, make));
            Checks.dueThrowOfTruth("banned(3," + make + ",0)", ARGUMENT, () -> x.banned(3, make, 0));
        }
        Checks.due("kilos of it", 0, () -> x.kilos(3, 0, 0));
        Checks.due("sold of it", 0, () -> x.sold(3, 0, 5, 5, 5));
        PacketLaw y = new PacketLaw();
        Checks.dueThrow("no maker at all", NO_SUCH, () -> y.packet(0));
        Checks.dueThrow("no packet at all", NO_SUCH, () -> y.made(0, 0));
        Checks.dueThrow("no scheme at all", INDEX, () -> y.paid(0));
        Checks.dueThrow("no load at all", INDEX, () -> y.out(0, 0));
        Checks.dueThrowOfTruth("no note at all", INDEX, () -> y.forged(0));
        Checks.dueThrow("no byte at all", ARGUMENT, () -> y.law(0, 1));
    }

    private static void abroadAndFound() throws ReflectiveOperationException {
        Checks.part("ABROAD above SOLD; more of these than looked at");
        int[] most = {0, 1, 999, 1000};
        for (int sold : most) {
            answers("sold", 0, 0, sold, sold, 1);
            refused(ARGUMENT, "sold", 0, 0, sold, sold + 1, 1);
        }
        for (int looked : new int[] {1, 2, 999, 1000}) {
            answers("sample", 0, 0, 0, looked, looked);
            refused(ARGUMENT, "sample", 0, 0, 0, looked, looked + 1);
        }
    }
}
