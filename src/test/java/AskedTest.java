import java.util.ArrayList;
import java.util.Collections;
import java.util.List;

/**
 * A call that asks changes nothing, and answers the same whatever was asked before it: all calls share the rows that
 * are made once. The 512th call is answered as the first would be.
 */
public final class AskedTest {
    private static final int CALLS = 512;

    private AskedTest() {
    }

    public static void main(String[] args) {
        asksOnce();
        asksInAnyOrder();
        asksBetweenTellings();
        lastCall();
        Checks.end();
    }

    /** A call that asks, told in words. */
    private record Ask(String call, CallOn on) {
        String answer(PacketLaw x) {
            try {
                return Long.toString(on.answer(x));
            } catch (RuntimeException e) {
                return "throws." + e.getClass().getName();
            }
        }
    }

    private interface CallOn {
        long answer(PacketLaw x);
    }

    /** Year 3, three makers with seven packets, two schemes, something of everything. */
    private static PacketLaw world() {
        PacketLaw x = new PacketLaw();
        Checks.law(x, 0, "fee paper=kilos/9+layers*share;fee mixed=grams*year;target paper 50;off glass 40;towns paper 700;trips 3;");
        Checks.law(x, 2, "ban mixed if grams>5 and layers>2;least 20;orphans schemes;");
        x.years(2);
        for (int m = 0; m < 3; m++) {
            x.maker();
        }
        for (int p = 0; p < 7; p++) {
            x.packet(p == 5 ? 1 : 0);
            x.make(p, 10 + p, 20, 0, 0, p, 30);
            x.make(p, 9, 0, 3, 0, 7, 40);
            x.sold(p, 3, 100 + p, 20, 2);
        }
        x.made(6, 1);
        x.scheme();
        x.scheme();
        x.join(0, 0, 0);
        x.join(1, 1, 3);
        x.declare(0, 0, 2, 700);
        x.declare(0, 4, 2, 300);
        x.years(1);
        x.declare(0, 0, 3, 800);
        x.declare(1, 0, 3, 905);
        x.declare(2, 4, 3, 11);
        x.orphans(0, 3, 15);
        x.orphans(0, 2, 4);
        x.load(0, 1000, 60, 20, 0, 0, 10);
        x.load(5, 500, 95, 0, 0, 0, 0);
        x.note(0, 0, 30, 1);
        x.note(0, 4, 999, 0);
        x.offer(0, 300, 5);
        x.offer(0, 400, 6);
        x.offer(0, 200, 1);
        x.sample(0, 0, 3, 10, 9);
        x.sample(1, 4, 3, 50, 30);
        x.bill(0, 2);
        Checks.law(x, 0, "fee tin=10000;");
        Checks.put(x, "least 55;");
        return x;
    }

    private static void add(List<Ask> all, String call, CallOn on) {
        all.add(new Ask(call, on));
    }

    private static List<Ask> asks() {
        List<Ask> all = new ArrayList<>();
        for (int what = -1; what <= 13; what++) {
            int w = what;
            add(all, "count(" + w + ")", x -> x.count(w));
        }
        add(all, "fault()", PacketLaw::fault);
        for (int year = 2; year <= 3; year++) {
            int y = year;
            add(all, "shyest(" + y + ")", x -> x.shyest(y));
            add(all, "pay(0," + y + ",-1)", x -> x.pay(0, y, -1));
            asksOfMakers(all, y);
            asksOfSchemes(all, y);
        }
        for (int what = 0; what < 7; what++) {
            int w = what;
            add(all, "out(1," + w + ")", x -> x.out(1, w));
        }
        add(all, "forged(0)", x -> x.forged(0) ? 1 : 0);
        add(all, "forged(1)", x -> x.forged(1) ? 1 : 0);
        return all;
    }

    private static void asksOfMakers(List<Ask> all, int y) {
        for (int maker = 0; maker < 3; maker++) {
            int m = maker;
            for (int sort = 0; sort < 5; sort += 4) {
                int s = sort;
                add(all, "truly(" + m + "," + s + "," + y + ")", x -> x.truly(m, s, y));
                add(all, "declared(" + m + "," + s + "," + y + ",2)", x -> x.declared(m, s, y, 2));
                add(all, "declared(" + m + "," + s + "," + y + ",3)", x -> x.declared(m, s, y, 3));
                add(all, "span(" + m + "," + s + "," + y + ",0)", x -> x.span(m, s, y, 0));
                add(all, "span(" + m + "," + s + "," + y + ",1)", x -> x.span(m, s, y, 1));
                add(all, "shy(" + m + "," + s + "," + y + ")", x -> x.shy(m, s, y));
            }
            add(all, "small(" + m + "," + y + ",3)", x -> x.small(m, y, 3) ? 1 : 0);
            add(all, "fee(" + m + "," + y + ",2)", x -> x.fee(m, y, 2));
            add(all, "fee(" + m + "," + y + ",3)", x -> x.fee(m, y, 3));
            add(all, "cheapest(" + m + "," + y + ",-1)", x -> x.cheapest(m, y, -1));
            add(all, "cheapest(" + m + "," + y + ",0)", x -> x.cheapest(m, y, 0));
            add(all, "cheapest(" + m + "," + y + ",4)", x -> x.cheapest(m, y, 4));
            add(all, "in(" + m + "," + y + ")", x -> x.in(m, y));
            add(all, "worth(" + m + "," + y + ")", x -> x.worth(m, y));
            add(all, "kilos(" + m + ",4," + y + ")", x -> x.kilos(m, 4, y));
            add(all, "banned(" + m + ",1," + y + ")", x -> x.banned(m, 1, y) ? 1 : 0);
        }
    }

    private static void asksOfSchemes(List<Ask> all, int y) {
        for (int scheme = 0; scheme < 2; scheme++) {
            int s = scheme;
            for (int what = 0; what < 5; what++) {
                int w = what;
                add(all, "owes(" + s + ",0," + y + ",3," + w + ")", x -> x.owes(s, 0, y, 3, w));
            }
            add(all, "owes(" + s + ",0," + y + ",2,3)", x -> x.owes(s, 0, y, 2, 3));
            add(all, "buying(" + s + ",0," + y + ",0)", x -> x.buying(s, 0, y, 0));
            add(all, "buying(" + s + ",0," + y + ",1)", x -> x.buying(s, 0, y, 1));
            add(all, "pay(0," + y + "," + s + ")", x -> x.pay(0, y, s));
            add(all, "paid(" + s + ")", x -> x.paid(s));
        }
        for (int what = 0; what < 6; what++) {
            int w = what;
            add(all, "tells(" + y + ",0," + w + ")", x -> x.tells(y, 0, w));
        }
        add(all, "why(" + y + ",4)", x -> x.why(y, 4));
    }

    private static void asksOnce() {
        Checks.part("a call that asks changes nothing");
        List<String> asItWas = Shown.of(world());
        for (Ask ask : asks()) {
            PacketLaw x = world();
            ask.answer(x);
            Checks.judge("what is shown behind " + ask.call, asItWas.toString(), Shown.of(x).toString());
        }
    }

    private static void asksInAnyOrder() {
        Checks.part("the same is answered whatever was asked before");
        List<Ask> all = asks();
        PacketLaw forth = world();
        PacketLaw back = world();
        List<String> answers = new ArrayList<>();
        for (Ask ask : all) {
            answers.add(ask.answer(forth));
        }
        Collections.reverse(all);
        Collections.reverse(answers);
        for (int i = 0; i < all.size(); i++) {
            Ask ask = all.get(i);
            Checks.judge(ask.call + " asked the other way round", answers.get(i), ask.answer(back));
            Checks.judge(ask.call + " asked alone", answers.get(i), ask.answer(world()));
        }
        for (int i = 0; i < all.size(); i++) {
            Ask ask = all.get(i);
            PacketLaw x = world();
            all.get((i + 7) % all.size()).answer(x);
            Checks.judge(ask.call + " asked behind another one", answers.get(i), ask.answer(x));
            Checks.judge(ask.call + " asked again", answers.get(i), ask.answer(x));
        }
    }

    private static void asksBetweenTellings() {
        Checks.part("what is told behind a question counts as without it");
        PacketLaw asked = world();
        PacketLaw plain = world();
        for (int i = 0; i < 8; i++) {
            int kilos = 100 * i;
            asked.cheapest(0, 3, -1);
            asked.buying(1, 0, 3, 0);
            asked.pay(0, 3, 0);
            asked.shyest(3);
            asked.fee(1, 3, 2);
            asked.worth(2, 3);
            Checks.due("declare", plain.declare(i % 3, i % 2 * 4, 3, kilos), () -> asked.declare(kilos / 100 % 3, kilos / 100 % 2 * 4, 3, kilos));
            Checks.due("bill", plain.bill(i % 3, 3), () -> asked.bill(kilos / 100 % 3, 3));
            Checks.due("buy", plain.buy(i % 2, 0, 3), () -> asked.buy(kilos / 100 % 2, 0, 3));
        }
        List<String> want = Shown.of(plain);
        List<String> got = Shown.of(asked);
        for (int i = 0; i < want.size(); i++) {
            Checks.judge("told and asked", want.get(i), got.get(i));
        }
    }

    /** So many calls, most of them refused or asking, that the next one is the 512th. */
    private static PacketLaw nearlyOld() {
        PacketLaw x = new PacketLaw();
        x.maker();
        x.packet(0);
        x.make(0, 10, 0, 0, 0, 0, 5);
        x.sold(0, 0, 100, 0, 1);
        x.scheme();
        x.join(0, 0, 0);
        int calls = 6;
        for (int i = 0; i < 200; i++) {
            x.declare(0, 0, 0, i + 1);
            calls++;
        }
        while (calls < CALLS - 1) {
            Checks.judge("call " + (calls + 1), "200", String.valueOf(x.declared(0, 0, 0, 0)));
            calls++;
        }
        return x;
    }

    private static void lastCall() {
        Checks.part("an object is used for at most 512 calls: the last one");
        PacketLaw law = nearlyOld();
        Checks.due("law", 0, () -> law.law(0, 0));
        PacketLaw fee = nearlyOld();
        Checks.due("fee", 20, () -> fee.fee(0, 0, 0));
        PacketLaw cheapest = nearlyOld();
        Checks.due("cheapest", 600, () -> cheapest.cheapest(0, 0, -1));
        PacketLaw declare = nearlyOld();
        Checks.due("declare", -1, () -> declare.declare(0, 0, 0, 5));
        PacketLaw weight = nearlyOld();
        Checks.due("owes", 200, () -> weight.owes(0, 0, 0, 0, 0));
        PacketLaw load = nearlyOld();
        Checks.due("load", 0, () -> load.load(0, 1, 0, 0, 0, 0, 0));
        PacketLaw years = nearlyOld();
        Checks.due("years", 40, () -> years.years(40));
        PacketLaw refused = nearlyOld();
        Checks.dueThrow("maker -1", java.util.NoSuchElementException.class, () -> refused.fee(-1, 0, 0));
    }
}
