import java.util.ArrayList;
import java.util.List;
import java.util.Map;
import java.util.Set;

/** A law's text for the model: read sign by sign, its sums and conditions kept as functions. */
final class ModelText {
    private static final List<String> SORTS = List.of("paper", "glass", "tin", "film", "mixed");
    private static final Set<String> KINDS = Set.of("fee", "target", "off", "towns", "ban", "least", "trips", "orphans");
    private static final Set<String> FACTS = Set.of("year", "kilos", "share", "grams", "layers");

    int from = 0;
    int faultKind = 0;
    int faultPlace = -1;
    final List<Clause> clauses = new ArrayList<>();
    private final String text;
    private int place = 0;
    private int open = 0;

    interface Sum {
        int value(Map<String, Integer> facts);
    }

    interface Condition {
        boolean holds(Map<String, Integer> facts);
    }

    /** A clause: what it is about, and what it tells. */
    static final class Clause {
        final String kind;
        int sort = -1;
        int number = 0;
        Sum sum;
        Condition condition = facts -> true;

        Clause(String kind) {
            this.kind = kind;
        }
    }

    private static final class Fault extends Exception {
        private static final long serialVersionUID = 1;
        final int kind;
        final int place;

        Fault(int kind, int place) {
            this.kind = kind;
            this.place = place;
        }
    }

    ModelText(String text) {
        this.text = text;
        try {
            while (!ahead().isEmpty()) {
                clause();
            }
        } catch (Fault e) {
            faultKind = e.kind;
            faultPlace = e.place;
        }
    }

    private boolean between(int at, char least, char most) {
        return at < text.length() && text.charAt(at) >= least && text.charAt(at) <= most;
    }

    /** What stands there: a word, a number, a sign, or nothing at the end. */
    private String ahead() {
        while (place < text.length() && text.charAt(place) == ' ') {
            place++;
        }
        int end = place;
        while (between(end, 'a', 'z')) {
            end++;
        }
        if (end == place) {
            while (between(end, '0', '9')) {
                end++;
            }
        }
        if (end == place && place < text.length()) {
            end++;
        }
        return text.substring(place, end);
    }

    private boolean goes(String what) {
        if (!ahead().equals(what)) {
            return false;
        }
        place += what.length();
        return true;
    }

    private void must(String what) throws Fault {
        if (!goes(what)) {
            throw new Fault(1, place);
        }
    }

    private String oneOf(Iterable<String> all) throws Fault {
        for (String one : all) {
            if (goes(one)) {
                return one;
            }
        }
        throw new Fault(1, place);
    }

    private int number(int least, int most) throws Fault {
        String digits = ahead();
        if (digits.isEmpty() || !between(place, '0', '9')) {
            throw new Fault(1, place);
        }
        String short_ = digits.replaceFirst("^0+(?=.)", "");
        if (short_.length() > 4 || Integer.parseInt(short_) < least || Integer.parseInt(short_) > most) {
            throw new Fault(2, place);
        }
        place += digits.length();
        return Integer.parseInt(short_);
    }

    private void clause() throws Fault {
        ahead();
        int start = place;
        Clause c = new Clause(oneOf(KINDS));
        if (clauses.size() == 16) {
            throw new Fault(3, start);
        }
        if (Set.of("fee", "target", "off", "towns", "ban").contains(c.kind)) {
            c.sort = SORTS.indexOf(oneOf(SORTS));
        }
        if (c.kind.equals("fee")) {
            must("=");
            c.sum = sum();
        } else if (c.kind.equals("ban")) {
            c.condition = goes("if") ? condition() : c.condition;
        } else if (c.kind.equals("orphans")) {
            c.number = oneOf(List.of("makers", "schemes")).equals("schemes") ? 1 : 0;
        } else if (c.kind.equals("trips")) {
            c.number = number(1, 50);
        } else {
            c.number = number(0, c.kind.equals("target") || c.kind.equals("off") ? 100 : 9999);
        }
        must(";");
        clauses.add(c);
    }

    private void opens(String what) throws Fault {
        if (ahead().equals(what) && open == 8) {
            throw new Fault(3, place);
        }
        must(what);
        open++;
    }

    private void closes(String what) throws Fault {
        must(what);
        open--;
    }

    private Sum sum() throws Fault {
        Sum all = product();
        while (true) {
            Sum a = all;
            if (goes("+")) {
                Sum b = product();
                all = f -> a.value(f) + b.value(f);
            } else if (goes("-")) {
                Sum b = product();
                all = f -> a.value(f) - b.value(f);
            } else {
                return all;
            }
        }
    }

    private Sum product() throws Fault {
        Sum all = unit();
        while (true) {
            Sum a = all;
            if (goes("*")) {
                Sum b = unit();
                all = f -> a.value(f) * b.value(f);
            } else if (goes("/")) {
                Sum b = unit();
                all = f -> b.value(f) == 0 ? 0 : (int) ((long) a.value(f) / b.value(f));
            } else {
                return all;
            }
        }
    }

    private Sum unit() throws Fault {
        String what = ahead();
        if (between(place, '0', '9')) {
            int n = number(0, 9999);
            return f -> n;
        }
        if (FACTS.contains(what)) {
            must(what);
            return f -> f.get(what);
        }
        boolean least = goes("min");
        if (least || goes("max")) {
            opens("(");
            Sum a = sum();
            must(",");
            Sum b = sum();
            closes(")");
            return f -> least ? Math.min(a.value(f), b.value(f)) : Math.max(a.value(f), b.value(f));
        }
        opens("(");
        Sum inside = sum();
        closes(")");
        return inside;
    }

    private Condition condition() throws Fault {
        Condition all = both();
        while (goes("or")) {
            Condition a = all;
            Condition b = both();
            all = f -> a.holds(f) || b.holds(f);
        }
        return all;
    }

    private Condition both() throws Fault {
        Condition all = test();
        while (goes("and")) {
            Condition a = all;
            Condition b = test();
            all = f -> a.holds(f) && b.holds(f);
        }
        return all;
    }

    private Condition test() throws Fault {
        if (ahead().equals("not")) {
            opens("not");
            Condition inside = test();
            open--;
            return f -> !inside.holds(f);
        }
        if (ahead().equals("[")) {
            opens("[");
            Condition inside = condition();
            closes("]");
            return inside;
        }
        Sum a = sum();
        String sign = oneOf(List.of("<", ">", "="));
        Sum b = sum();
        return f -> {
            int order = Integer.compare(a.value(f), b.value(f));
            return sign.equals("<") ? order < 0 : sign.equals(">") ? order > 0 : order == 0;
        };
    }
}
