import java.util.ArrayList;
import java.util.List;

/** What an object shows of itself: the answers to fewer than 300 calls, told one behind the other. */
final class Shown {
    private final PacketLaw x;
    private final List<String> answers = new ArrayList<>();

    private Shown(PacketLaw x) {
        this.x = x;
    }

    /** The last calls change the object: it is of no use behind this. */
    static List<String> of(PacketLaw x) {
        Shown shown = new Shown(x);
        shown.countsAndLaws();
        shown.packets();
        shown.makers();
        shown.schemes();
        shown.loads();
        shown.samples();
        shown.tape();
        shown.whatWas();
        return shown.answers;
    }

    private void tell(String call, Checks.Call made) {
        String answer;
        try {
            answer = Long.toString(made.answer());
        } catch (RuntimeException e) {
            answer = "throws." + e.getClass().getName();
        }
        answers.add(call + " = " + answer);
    }

    private static final int[] SORTS = {0, 4};
    private static final int[] YEARS = {0, 3};

    private void countsAndLaws() {
        for (int what = 0; what <= 13; what++) {
            int w = what;
            tell("count(" + w + ")", () -> x.count(w));
        }
        tell("fault()", x::fault);
        for (int sort : SORTS) {
            for (int what = 0; what < 6; what++) {
                int w = what;
                tell("tells(0," + sort + "," + w + ")", () -> x.tells(0, sort, w));
                tell("tells(40," + sort + "," + w + ")", () -> x.tells(40, sort, w));
            }
        }
        for (int sort = 0; sort < 5; sort++) {
            int s = sort;
            tell("why(40," + s + ")", () -> x.why(40, s));
        }
    }

    private void packets() {
        for (int packet = 0; packet < 3; packet++) {
            int p = packet;
            for (int year : YEARS) {
                for (int sort : new int[] {0, 1, 4}) {
                    tell("kilos(" + p + "," + sort + "," + year + ")", () -> x.kilos(p, sort, year));
                }
                for (int make = 0; make < 2; make++) {
                    int m = make;
                    tell("banned(" + p + "," + m + "," + year + ")", () -> x.banned(p, m, year) ? 1 : 0);
                }
            }
        }
        tell("kilos(19,0,0)", () -> x.kilos(19, 0, 0));
    }

    private void makers() {
        for (int maker = 0; maker < 3; maker++) {
            int m = maker;
            for (int year : YEARS) {
                for (int sort : SORTS) {
                    tell("declared(" + m + "," + sort + "," + year + ",2)", () -> x.declared(m, sort, year, 2));
                    tell("declared(" + m + "," + sort + "," + year + ",40)", () -> x.declared(m, sort, year, 40));
                }
                tell("small(" + m + "," + year + ",40)", () -> x.small(m, year, 40) ? 1 : 0);
                tell("fee(" + m + "," + year + ",40)", () -> x.fee(m, year, 40));
                tell("in(" + m + "," + year + ")", () -> x.in(m, year));
                for (int what = -1; what < 2; what++) {
                    int w = what;
                    tell("cheapest(" + m + "," + year + "," + w + ")", () -> x.cheapest(m, year, w));
                }
            }
            tell("in(" + m + ",40)", () -> x.in(m, 40));
        }
        tell("in(9,40)", () -> x.in(9, 40));
    }

    private void schemes() {
        for (int scheme = 0; scheme < 2; scheme++) {
            int s = scheme;
            for (int year : YEARS) {
                for (int sort : SORTS) {
                    for (int what = 0; what < 5; what++) {
                        int w = what;
                        tell("owes(" + s + "," + sort + "," + year + ",40," + w + ")", () -> x.owes(s, sort, year, 40, w));
                    }
                    tell("buying(" + s + "," + sort + "," + year + ",1)", () -> x.buying(s, sort, year, 1));
                }
            }
            tell("paid(" + s + ")", () -> x.paid(s));
        }
    }

    private void loads() {
        for (int what = 0; what < 7; what++) {
            int w = what;
            tell("out(0," + w + ")", () -> x.out(0, w));
            tell("out(59," + w + ")", () -> x.out(59, w));
        }
        for (int note : new int[] {0, 1, 2, 99}) {
            tell("forged(" + note + ")", () -> x.forged(note) ? 1 : 0);
        }
        for (int town = 0; town < 6; town++) {
            int t = town;
            tell("pay(" + t + ",3,-1)", () -> x.pay(t, 3, -1));
        }
        tell("pay(0,0,0)", () -> x.pay(0, 0, 0));
        tell("pay(0,3,1)", () -> x.pay(0, 3, 1));
    }

    private void samples() {
        for (int maker = 0; maker < 3; maker++) {
            int m = maker;
            for (int sort : SORTS) {
                tell("span(" + m + "," + sort + ",3,0)", () -> x.span(m, sort, 3, 0));
                tell("span(" + m + "," + sort + ",3,1)", () -> x.span(m, sort, 3, 1));
                tell("shy(" + m + "," + sort + ",3)", () -> x.shy(m, sort, 3));
            }
            tell("worth(" + m + ",3)", () -> x.worth(m, 3));
        }
        tell("shyest(3)", () -> x.shyest(3));
    }

    private void tape() {
        tell("law(0," + x.count(11) + ")", () -> x.law(0, x.count(11)));
        tell("fault()", x::fault);
        tell("tells(0,0,3)", () -> x.tells(0, 0, 3));
        tell("count(11)", () -> x.count(11));
    }

    private void whatWas() {
        for (int year : YEARS) {
            for (int maker = 0; maker < 3; maker++) {
                int m = maker;
                tell("bill(" + m + "," + year + ")", () -> x.bill(m, year));
            }
            for (int sort : SORTS) {
                tell("orphans(" + sort + "," + year + ",0)", () -> x.orphans(sort, year, 0));
            }
        }
        for (int packet = 0; packet < 3; packet++) {
            int p = packet;
            tell("made(" + p + ",0)", () -> x.made(p, 0));
            tell("sold(" + p + ",3,0,0,1)", () -> x.sold(p, 3, 0, 0, 1));
        }
    }
}
