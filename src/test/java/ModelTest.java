import java.lang.reflect.InvocationTargetException;
import java.lang.reflect.Method;
import java.util.ArrayList;
import java.util.HashMap;
import java.util.List;
import java.util.Map;
import java.util.Random;

/** Runs of 512 calls, drawn from fixed seeds, on the program and on the model: all answers must be alike. */
public final class ModelTest {
    private static final int RUNS = 1500;
    private static final int CALLS = 512;
    private static final int CALLS_OF_A_TEXT = 21;

    private final Random random;
    private final PacketLaw program = new PacketLaw();
    private final Model model = new Model();
    private final List<String> told = new ArrayList<>();
    private final int run;
    private final int busyYears;
    private final boolean manyMakers;
    private final boolean manyPackets;

    private ModelTest(int run) {
        this.run = run;
        random = new Random(run * 7919L);
        busyYears = 1 + random.nextInt(4);
        manyMakers = random.nextBoolean();
        manyPackets = run % 5 == 4;
    }

    public static void main(String[] args) {
        Map<String, Integer> kinds = new HashMap<>();
        for (int run = 0; run < RUNS; run++) {
            new ModelTest(run).go(kinds);
        }
        System.out.println(RUNS + " runs of " + CALLS + " calls are alike; "
            + kinds.getOrDefault("throws", 0) + " calls threw, " + kinds.getOrDefault("law", 0) + " laws stood");
    }

    private void go(Map<String, Integer> kinds) {
        start();
        while (told.size() < CALLS) {
            String name = NAMES[random.nextInt(NAMES.length)];
            if (manyPackets && name.equals("make")) {
                // the model is slow where there are many rows of makes
                name = "sold";
            }
            if (name.equals("text")) {
                // behind the 512th call all answers are free
                if (told.size() + CALLS_OF_A_TEXT <= CALLS) {
                    feedText();
                    step(random.nextInt(3) > 0 ? "law" : "tried", kinds, true);
                }
            } else {
                step(name, kinds, false);
            }
        }
    }

    private void start() {
        int makers = manyMakers ? 6 : 2;
        for (int i = 0; i < makers; i++) {
            same("maker");
        }
        for (int i = 0; i < 3; i++) {
            same("scheme");
        }
        for (int i = 0; i < 4; i++) {
            same("packet", random.nextInt(makers));
        }
        for (int i = 0; i < makers; i++) {
            same("join", i, random.nextInt(3), 0);
        }
        if (manyPackets) {
            startPackets();
        }
    }

    /** So many packets that some stand behind the first five, of each one make or two; sold in the first years. */
    private void startPackets() {
        for (int i = 0; i < 12; i++) {
            same("packet", random.nextInt(3) == 0 ? 1 : 0);
        }
        for (int p = 0; p < 16; p++) {
            for (int i = random.nextInt(20) == 0 ? 0 : 1 + random.nextInt(2); i > 0; i--) {
                int[] args = makeArguments();
                args[0] = p;
                same("make", args);
            }
            for (int year = 0; year < 3; year++) {
                same("sold", p, year, random.nextInt(200), 0, 1);
            }
        }
        same("years", random.nextInt(3));
    }

    private static final String[] NAMES = {"years", "text", "text", "feed", "law", "fault", "tells", "why", "maker", "packet",
        "make", "make", "made", "sold", "sold", "kilos", "truly", "declare", "declare", "declare", "declared", "small", "fee", "fee",
        "bill", "bill", "tried", "banned", "banned", "cheapest", "cheapest", "scheme", "join", "in", "owes", "owes", "owes",
        "orphans", "load", "out", "note", "note", "forged", "pay", "pay", "offer", "buying", "buying", "buy", "paid",
        "sample", "span", "shy", "shyest", "worth", "count"};

    private int tapeText = 0;

    private void feedText() {
        String text = new TextMaker(random).text();
        tapeText = text.length();
        int[] n = Checks.numbersOf(Checks.bytesOf(text));
        for (int i = 0; i < n.length; i += 5) {
            same("feed", n[i], n[i + 1], n[i + 2], n[i + 3], n[i + 4]);
        }
    }

    private void step(String name, Map<String, Integer> kinds, boolean withText) {
        String answer = same(name, argumentsOf(name, withText));
        kinds.merge(answer.startsWith("throws") ? "throws" : "answers", 1, Integer::sum);
        if (name.equals("law") && answer.length() == 1) {
            kinds.merge("law", 1, Integer::sum);
        }
    }

    /** Both make the call: the answer; if they are not alike, the run is told and the test has failed. */
    private String same(String name, int... args) {
        StringBuilder call = new StringBuilder(name).append('(');
        for (int i = 0; i < args.length; i++) {
            call.append(i == 0 ? "" : ", ").append(args[i]);
        }
        String due = answer(model, name, args);
        String got = answer(program, name, args);
        told.add(call.append(") = ").append(got).toString());
        if (!due.equals(got)) {
            tellRun(due);
            System.exit(1);
        }
        return got;
    }

    private void tellRun(String due) {
        System.out.println("run " + run + ":");
        for (String line : told) {
            System.out.println("  " + line);
        }
        System.out.println("  the model answers " + due);
    }

    private static final Map<String, Method> METHODS = new HashMap<>();

    private static Method methodOf(Object object, String name) throws NoSuchMethodException {
        String key = object.getClass().getName() + "." + name;
        if (!METHODS.containsKey(key)) {
            for (Method m : object.getClass().getDeclaredMethods()) {
                if (m.getName().equals(name) && java.lang.reflect.Modifier.isPublic(m.getModifiers())) {
                    METHODS.put(key, m);
                }
            }
        }
        if (!METHODS.containsKey(key)) {
            throw new NoSuchMethodException(key);
        }
        return METHODS.get(key);
    }

    private static String answer(Object object, String name, int[] args) {
        Object[] all = new Object[args.length];
        for (int i = 0; i < args.length; i++) {
            all[i] = args[i];
        }
        try {
            return String.valueOf(methodOf(object, name).invoke(object, all));
        } catch (InvocationTargetException e) {
            return "throws." + e.getCause().getClass().getName();
        } catch (ReflectiveOperationException e) {
            throw new IllegalStateException(name, e);
        }
    }

    private int[] argumentsOf(String name, boolean withText) {
        switch (name) {
            case "years": return of(random.nextInt(20) == 0 ? wild() : random.nextInt(12) / 11);
            case "feed": return of(random.nextInt(), random.nextInt(), 0x3b3b3b20, random.nextInt(), random.nextInt());
            case "law": return of(year(), withText ? tapeText : random.nextInt(12) == 0 ? wild() : 0);
            case "tells": return of(year(), sort(), index(6));
            case "why": return of(year(), sort());
            case "fault": case "maker": case "scheme": return of();
            case "packet": return of(maker());
            case "make": return makeArguments();
            case "made": return of(packet(), index(3));
            case "sold": return soldArguments();
            case "kilos": return of(packet(), sort(), year());
            case "truly": return of(maker(), sort(), year());
            case "declare": return of(maker(), sort(), year(), amount(10000000));
            case "declared": return of(maker(), sort(), year(), known());
            case "small": case "fee": return of(maker(), year(), known());
            case "bill": case "in": case "worth": return of(maker(), year());
            case "tried": return of(maker(), year(), withText ? tapeText : 0);
            case "banned": return of(packet(), index(3), year());
            case "cheapest": return of(maker(), year(), index(6) - 1);
            case "join": return of(maker(), index(model.count(5) + 1) - 1, year());
            case "owes": return of(scheme(), sort(), year(), known(), index(5));
            case "orphans": return of(sort(), year(), amount(1000000));
            case "load": return loadArguments();
            case "out": return of(index(model.count(6)), index(7));
            case "note": return of(index(model.count(6)), sort(), amount(20000), scheme());
            case "forged": return of(index(model.count(7)));
            case "pay": return of(index(6), year(), index(model.count(5) + 1) - 1);
            case "offer": return of(sort(), amount(100000), random.nextInt(3) == 0 ? random.nextInt(3) : amount(100000));
            case "buying": return of(scheme(), sort(), year(), index(2));
            case "buy": return of(scheme(), sort(), year());
            case "paid": return of(scheme());
            case "sample": return sampleArguments();
            case "span": return of(maker(), sort(), year(), index(2));
            case "shy": return of(maker(), sort(), year());
            case "shyest": return of(year());
            default: return of(index(13));
        }
    }

    private static int[] of(int... args) {
        return args;
    }

    private int wild() {
        int[] all = {Integer.MIN_VALUE, Integer.MAX_VALUE, -1, -2, 0, 1, 40, 41, 100, 101, 400, 401, 1 << 16};
        return all[random.nextInt(all.length)];
    }

    /** Mostly one of so many, at times just outside or far outside. */
    private int index(int count) {
        int dice = random.nextInt(60);
        return dice == 0 ? wild() : dice == 1 ? count : dice == 2 ? -1 : random.nextInt(Math.max(1, count));
    }

    private int maker() {
        return index(model.count(2));
    }

    private int packet() {
        return index(model.count(3));
    }

    private int scheme() {
        return index(model.count(5));
    }

    /** Few sorts and years are busy, so that much meets. */
    private int sort() {
        return random.nextInt(3) > 0 ? random.nextInt(2) : index(5);
    }

    private int year() {
        int dice = random.nextInt(40);
        return dice == 0 ? index(41) : random.nextInt(Math.min(busyYears, model.count(0) + 1));
    }

    private int known() {
        return random.nextInt(8) == 0 ? wild() : random.nextInt(model.count(0) + 2);
    }

    private int amount(int most) {
        int dice = random.nextInt(40);
        if (dice < 2) {
            return dice == 0 ? most + 1 : -1;
        }
        return dice < 6 ? most : random.nextInt(1 + Math.min(most, random.nextBoolean() ? 20 : 3000));
    }

    private int[] makeArguments() {
        int[] args = of(packet(), 0, 0, 0, 0, 0, random.nextInt(random.nextBoolean() ? 4 : 1000));
        for (int i = 1; i < 6; i++) {
            args[i] = random.nextBoolean() ? 0 : random.nextInt(40) == 0 ? wild() : random.nextInt(30);
        }
        return args;
    }

    private int[] soldArguments() {
        int sold = index(1001) % (random.nextBoolean() ? 20 : 1002);
        return of(packet(), year(), sold, random.nextInt(30) == 0 ? sold + 1 : random.nextInt(Math.max(1, sold + 1)),
            random.nextInt(30) == 0 ? wild() : 1 + random.nextInt(6));
    }

    private int[] loadArguments() {
        int[] args = of(index(6) % 2, amount(20000), 0, 0, 0, 0, index(51));
        int left = random.nextInt(15) == 0 ? 110 : 100;
        for (int i = 2; i < 6; i++) {
            args[i] = random.nextInt(left + 1);
            left -= args[i];
        }
        if (random.nextInt(30) == 0) {
            args[2 + random.nextInt(4)] = wild();
        }
        return args;
    }

    private int[] sampleArguments() {
        int looked = 1 + random.nextInt(random.nextBoolean() ? 10 : 1000);
        return of(maker(), sort(), year(), random.nextInt(30) == 0 ? wild() : looked,
            random.nextInt(30) == 0 ? looked + 1 : random.nextInt(looked + 1));
    }
}
