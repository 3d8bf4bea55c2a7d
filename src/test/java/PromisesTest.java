import java.util.NoSuchElementException;

/** Each promise of the document by hand: ordinary answers, edges, wrong inputs. */
public final class PromisesTest {
    private static final Class<IllegalArgumentException> ARGUMENT = IllegalArgumentException.class;
    private static final Class<IllegalStateException> STATE = IllegalStateException.class;
    private static final Class<IndexOutOfBoundsException> INDEX = IndexOutOfBoundsException.class;
    private static final Class<NoSuchElementException> NO_SUCH = NoSuchElementException.class;
    private static final int LOWEST = Integer.MIN_VALUE;
    private static final int HIGHEST = Integer.MAX_VALUE;

    private PromisesTest() {
    }

    public static void main(String[] args) {
        promise1();
        promise2();
        promise3();
        promise4();
        texts();
        depths();
        promise5();
        promise6();
        promise7();
        promise8();
        promise9();
        promise10();
        promise11();
        promise12();
        promise13();
        promise14();
        promise15();
        promise16();
        promise17();
        promise18();
        values();
        facts();
        promise19();
        promise20();
        promise21();
        conditions();
        promise22();
        choices();
        promise23();
        promise24();
        promise25();
        promise26();
        partings();
        promise27();
        promise28();
        promise29();
        promise30();
        promise31();
        promise32();
        promise33();
        promise34();
        sets();
        promise35();
        promise36();
        promise37();
        promise38();
        promise39();
        promise40();
        promise41();
        promise42();
        Checks.end();
    }

    private static PacketLaw withMakers(int makers) {
        PacketLaw x = new PacketLaw();
        for (int i = 0; i < makers; i++) {
            x.maker();
        }
        return x;
    }

    private static PacketLaw withSchemes(int makers, int schemes) {
        PacketLaw x = withMakers(makers);
        for (int i = 0; i < schemes; i++) {
            x.scheme();
        }
        return x;
    }

    private static void promise1() {
        Checks.part("promise 1");
        Checks.due("NONE", -1, () -> PacketLaw.NONE);
        Checks.due("VOID", -2000000000, () -> PacketLaw.VOID);
        PacketLaw x = new PacketLaw();
        for (int what = 0; what <= 12; what++) {
            int w = what;
            Checks.due("count(" + w + ")", 0, () -> x.count(w));
        }
        Checks.due("fault()", -1, x::fault);
        Checks.dueThrow("packet(0)", NO_SUCH, () -> x.packet(0));
        Checks.dueThrow("kilos(0,0,0)", NO_SUCH, () -> x.kilos(0, 0, 0));
        Checks.dueThrow("paid(0)", INDEX, () -> x.paid(0));
        Checks.dueThrow("out(0,0)", INDEX, () -> x.out(0, 0));
        Checks.dueThrowOfTruth("forged(0)", INDEX, () -> x.forged(0));
        Checks.due("shyest(0)", -1, () -> x.shyest(0));
        Checks.due("pay(0,0,-1)", 0, () -> x.pay(0, 0, -1));
        Checks.due("why(0,0)", -1, () -> x.why(0, 0));
        Checks.due("orphans(0,0,0)", 0, () -> x.orphans(0, 0, 0));
        PacketLaw other = new PacketLaw();
        other.years(7);
        other.maker();
        Checks.due("one object is not another", 0, () -> x.count(0) + x.count(2));
    }

    private static void promise2() {
        Checks.part("promise 2");
        PacketLaw x = new PacketLaw();
        Checks.due("years(0)", 0, () -> x.years(0));
        Checks.due("years(3)", 3, () -> x.years(3));
        Checks.due("years(2)", 5, () -> x.years(2));
        Checks.dueThrow("years(-1)", ARGUMENT, () -> x.years(-1));
        Checks.dueThrow("years(41)", ARGUMENT, () -> x.years(41));
        Checks.dueThrow("years(highest)", ARGUMENT, () -> x.years(HIGHEST));
        Checks.dueThrow("years(lowest)", ARGUMENT, () -> x.years(LOWEST));
        Checks.dueThrow("years(36)", STATE, () -> x.years(36));
        Checks.due("count(0)", 5, () -> x.count(0));
        Checks.due("years(35)", 40, () -> x.years(35));
        Checks.due("years(0)", 40, () -> x.years(0));
        Checks.dueThrow("years(1)", STATE, () -> x.years(1));
        Checks.dueThrow("years(40)", STATE, () -> x.years(40));
        Checks.due("count(0)", 40, () -> x.count(0));
        Checks.due("years(40) at first", 40, () -> new PacketLaw().years(40));
    }

    private static void promise3() {
        Checks.part("promise 3");
        PacketLaw x = new PacketLaw();
        for (int i = 1; i <= 20; i++) {
            int many = 20 * i;
            Checks.due("feed to " + many, many, () -> x.feed(0x20202020, 0x20202020, 0x20202020, 0x20202020, 0x20202020));
        }
        Checks.due("feed above 400", -1, () -> x.feed(0, 0, 0, 0, 0));
        Checks.due("count(11)", 400, () -> x.count(11));
        Checks.due("400 blanks are a law", 0, () -> x.law(0, 400));
        Checks.due("count(11)", 0, () -> x.count(11));
        Checks.due("feed again", 20, () -> x.feed(-1, 0, 0, 0, 0));
        Checks.due("a byte of 255 can't stand there", -9, () -> x.law(0, 1));
        Checks.due("fault()", 0, x::fault);
        // the highest byte first, and all five numbers in their order
        x.feed(0x6c656173, 0x74203132, 0x33343b66, 0x66206f66, 0x6620676c);
        Checks.due("least 1234;ff of...", -9, () -> x.law(0, 20));
        Checks.due("fault()", 11, x::fault);
        x.feed(0x6c656173, 0x74203132, 0x33343b6f, 0x66662067, 0x6c617373);
        x.feed(0x2037373b, 0, 0, 0, 0);
        Checks.due("least 1234;off glass 77;", 1, () -> x.law(0, 24));
        Checks.due("tells least", 1234, () -> x.tells(0, 0, 3));
        Checks.due("tells off of glass", 77, () -> x.tells(0, 1, 1));
    }

    private static void promise4() {
        Checks.part("promise 4");
        PacketLaw x = new PacketLaw();
        Checks.put(x, "least 5;");
        Checks.dueThrow("law(-1,8)", ARGUMENT, () -> x.law(-1, 8));
        Checks.dueThrow("law(41,8)", ARGUMENT, () -> x.law(41, 8));
        Checks.dueThrow("law(0,-1)", ARGUMENT, () -> x.law(0, -1));
        Checks.dueThrow("law(0,21)", ARGUMENT, () -> x.law(0, 21));
        Checks.dueThrow("law(0,lowest)", ARGUMENT, () -> x.law(0, LOWEST));
        Checks.due("the tape is kept", 20, () -> x.count(11));
        Checks.due("law(3,8)", 0, () -> x.law(3, 8));
        Checks.due("the tape is empty", 0, () -> x.count(11));
        Checks.dueThrow("law(0,1)", ARGUMENT, () -> x.law(0, 1));
        Checks.due("not in force in 2", 0, () -> x.tells(2, 0, 3));
        Checks.due("in force in 3", 5, () -> x.tells(3, 0, 3));
        Checks.due("in force in 40", 5, () -> x.tells(40, 0, 3));
        Checks.due("an empty law", 1, () -> x.law(40, 0));
        Checks.put(x, "least 9;");
        Checks.due("the first bytes alone", -9, () -> x.law(0, 7));
        Checks.due("fault at the length", 7, x::fault);
        Checks.due("a fault empties the tape", 0, () -> x.count(11));
        Checks.due("a fault is no law", 2, () -> x.count(1));
        Checks.due("a fault's clauses don't count", 5, () -> x.tells(3, 0, 3));
        for (int i = 2; i < 10; i++) {
            int number = i;
            Checks.due("law " + i, number, () -> Checks.law(x, 0, "least " + number + ";"));
        }
        Checks.put(x, "least x;");
        Checks.dueThrow("law(41,8) of ten", ARGUMENT, () -> x.law(41, 8));
        Checks.dueThrow("law(0,21) of ten", ARGUMENT, () -> x.law(0, 21));
        Checks.due("an eleventh law", -1, () -> x.law(0, 8));
        Checks.due("it is not read", -1, x::fault);
        Checks.due("the tape is empty", 0, () -> x.count(11));
        Checks.due("count(1)", 10, () -> x.count(1));
        Checks.due("laws count by number", 9, () -> x.tells(40, 0, 3));
    }

    /** The text's fault, or none: told by law() and by fault(). */
    private static void text(String text, int kind, int place) {
        PacketLaw x = new PacketLaw();
        Checks.due("law of <" + text + ">", kind == 0 ? 0 : kind - 10, () -> Checks.law(x, 0, text));
        Checks.due("fault of <" + text + ">", place, x::fault);
    }

    private static void fits(String text) {
        text(text, 0, -1);
    }

    private static void texts() {
        Checks.part("promise 4, texts");
        fits("");
        fits("   ");
        fits("least 1;");
        fits("  least   1 ;  least 2;   ");
        fits("least1;");
        fits("least 0;least 9999;least 00000000000000000000000001;");
        fits("target paper 0;target glass 100;off tin 0;off film 100;towns mixed 9999;trips 1;trips 50;");
        fits("orphans makers;orphans schemes;ban paper;ban glass if 1<2;");
        fits("fee paper=1;fee glass = year+kilos-share*grams/layers;");
        fits("fee tin=min(1,max(2,3))*(4);");
        fits("ban tin if not 1=1 and [2>1 or year<3] or 0=0;");
        fits("ban tin if (1)<(2);");
        fits("ban tin if not[1=1];");
        text(";", 1, 0);
        text("paper", 1, 0);
        text("5", 1, 0);
        text("Least 1;", 1, 0);
        text("least", 1, 5);
        text("least ", 1, 6);
        text("least 1", 1, 7);
        text("least 1  ", 1, 9);
        text("least 1;;", 1, 8);
        text("least 1,", 1, 7);
        text("least 10000;", 2, 6);
        text("least 4294967296;", 2, 6);
        text("least 4294967297;", 2, 6);
        text("least 18446744073709551617;", 2, 6);
        text("least -1;", 1, 6);
        text("least x;", 1, 6);
        text("leasts 1;", 1, 0);
        text("lea 1;", 1, 0);
        text("leas", 1, 0);
        text("leastz 1;", 1, 0);
        text("zleast 1;", 1, 0);
        text("orphans aschemes;", 1, 8);
        text("least(1);", 1, 5);
        text("least paper 1;", 1, 6);
        text("least 1 2;", 1, 8);
        text("target 5;", 1, 7);
        text("target paper 101;", 2, 13);
        text("target paper;", 1, 12);
        text("targetpaper 1;", 1, 0);
        text("target year 1;", 1, 7);
        text("off mixed 101;", 2, 10);
        text("off mixe 1;", 1, 4);
        text("towns film 10000;", 2, 11);
        text("trips 0;", 2, 6);
        text("trips 51;", 2, 6);
        text("trips 000;", 2, 6);
        text("trips 050;trips 51;", 2, 16);
        text("orphans;", 1, 7);
        text("orphans maker;", 1, 8);
        text("orphans schemes", 1, 15);
        text("orphans paper;", 1, 8);
        text("ban;", 1, 3);
        text("ban paper if;", 1, 12);
        text("ban paper 1<2;", 1, 10);
        text("ban paper if 1;", 1, 14);
        text("ban paper if 1<;", 1, 15);
        text("ban paper if 1<2<3;", 1, 16);
        text("ban paper if 1==2;", 1, 15);
        text("ban paper if (1<2);", 1, 15);
        text("ban paper if [1+2];", 1, 17);
        text("ban paper if [1<2;", 1, 17);
        text("ban paper if not;", 1, 16);
        text("ban paper if 1<2 and;", 1, 20);
        text("ban paper if 1<2 or or 1<2;", 1, 20);
        text("ban paper if 1<2 not 1<2;", 1, 17);
        text("ban paper if or;", 1, 13);
        text("ban paper if 1<10000;", 2, 15);
        text("fee paper 1;", 1, 10);
        text("fee paper=;", 1, 10);
        text("fee paper=+1;", 1, 10);
        text("fee paper=1+;", 1, 12);
        text("fee paper=1*/2;", 1, 12);
        text("fee paper=1 2;", 1, 12);
        text("fee paper=10000;", 2, 10);
        text("fee paper=9999*09999;fee paper=1+10000;", 2, 33);
        text("fee paper=years;", 1, 10);
        text("fee paper=kilos2;", 1, 15);
        text("fee paper=2kilos;", 1, 11);
        text("fee paper=();", 1, 11);
        text("fee paper=(1;", 1, 12);
        text("fee paper=1);", 1, 11);
        text("fee paper=min 1;", 1, 14);
        text("fee paper=min(1);", 1, 15);
        text("fee paper=min(1,);", 1, 16);
        text("fee paper=min(1,2,3);", 1, 17);
        text("fee paper=max(,1);", 1, 14);
        text("fee paper=[1];", 1, 10);
        text("fee paper=not 1;", 1, 10);
        text("fee paper=1<2;", 1, 11);
        text("fee paper=paper;", 1, 10);
        text("fee fee=1;", 1, 4);
        text("fee paper=1\t;", 1, 11);
        text("fee paper=1\u00e9;", 1, 11);
        text("fee paper=1\u0000", 1, 11);
        text("fee paper=1;\n", 1, 12);
        text("least 10000 x", 2, 6);
        text("least x 10000;", 1, 6);
    }

    private static String times(String text, int many) {
        StringBuilder all = new StringBuilder();
        for (int i = 0; i < many; i++) {
            all.append(text);
        }
        return all.toString();
    }

    private static void depths() {
        Checks.part("promise 4, clauses and depths");
        String least = times("least 1;", 16);
        fits(least);
        fits(least + "  ");
        text(least + "least 1;", 3, 128);
        text(least + "  ban paper;", 3, 130);
        text(least + "fee", 3, 128);
        text(least + "x", 1, 128);
        text(least + "99999", 1, 128);
        text(least + ";", 1, 128);
        fits("fee tin=" + times("(", 8) + "1" + times(")", 8) + "+" + times("(", 8) + "1" + times(")", 8) + ";");
        text("fee tin=" + times("(", 9) + "1" + times(")", 9) + ";", 3, 16);
        text("fee tin=" + times("(", 9), 3, 16);
        text("fee tin=" + times("(", 8), 1, 16);
        fits("fee tin=" + times("min(", 8) + "1" + times(",2)", 8) + ";");
        text("fee tin=" + times("min(", 9) + "1" + times(",2)", 9) + ";", 3, 43);
        text("fee tin=" + times("(", 8) + "min 1", 1, 20);
        text("fee tin=" + times("(", 8) + "min", 1, 19);
        text("fee tin=" + times("(", 8) + "max(1", 3, 19);
        fits("ban tin if " + times("not ", 8) + "1<2;");
        text("ban tin if " + times("not ", 9) + "1<2;", 3, 43);
        fits("ban tin if " + times("[", 8) + "1<2" + times("]", 8) + ";");
        text("ban tin if " + times("[", 9) + "1<2" + times("]", 9) + ";", 3, 19);
        text("ban tin if " + times("not ", 7) + "[(1)<2];", 3, 40);
        fits("ban tin if " + times("not ", 7) + "(1)<2;");
        text("ban tin if " + times("not ", 8) + "(1)<2;", 3, 43);
        text("ban tin if " + times("not ", 8) + "[1<2];", 3, 43);
        text("ban tin if " + times("not ", 8) + "1<(2);", 3, 45);
        fits("ban tin if " + times("not ", 8) + "1<2 and (1)<2 or not [1<2];");
        text("ban tin if " + times("[", 7) + "not 1<2 and not (1)=1", 3, 34);
        fits("ban tin if not not 1<2 and " + times("not ", 8) + "1<2;");
        fits("ban tin if " + times("[", 4) + times("not ", 4) + "1<2 and " + times("not ", 4) + "1=1" + times("]", 4) + ";");
        String longest = "fee paper=1" + times("+1", 194) + ";";
        Checks.due("its length", 400, longest::length);
        fits(longest);
    }

    private static void promise5() {
        Checks.part("promise 5");
        PacketLaw x = withMakers(1);
        Checks.due("none yet", -1, x::fault);
        Checks.law(x, 0, "least ?;");
        Checks.due("of law()", 6, x::fault);
        Checks.due("asked again", 6, x::fault);
        Checks.dueThrow("law(41,0)", ARGUMENT, () -> x.law(41, 0));
        Checks.due("a throw changes nothing", 6, x::fault);
        Checks.law(x, 0, "least 1;");
        Checks.due("none of a law", -1, x::fault);
        Checks.tried(x, 0, 0, "ban paper ;?");
        Checks.due("of tried()", 11, x::fault);
        Checks.tried(x, 0, 0, "ban paper ;");
        Checks.due("none of a text that was tried", -1, x::fault);
    }

    private static void promise6() {
        Checks.part("promise 6");
        PacketLaw x = new PacketLaw();
        int[] without = {0, 100, 0, 0, 1, 0};
        for (int what = 0; what < 6; what++) {
            int w = what;
            Checks.due("without: what " + w, without[w], () -> x.tells(0, 4, w));
        }
        Checks.law(x, 5, "target paper 40;target paper 50;off glass 30;towns tin 700;least 80;trips 9;orphans schemes;");
        Checks.law(x, 2, "target paper 60;orphans makers;trips 4;towns tin 0;");
        Checks.law(x, 7, "orphans schemes;target film 1;");
        Checks.due("target in 1", 0, () -> x.tells(1, 0, 0));
        Checks.due("target in 4", 60, () -> x.tells(4, 0, 0));
        Checks.due("target in 5, by number", 60, () -> x.tells(5, 0, 0));
        Checks.due("target of film in 6", 0, () -> x.tells(6, 3, 0));
        Checks.due("target of film in 7", 1, () -> x.tells(7, 3, 0));
        Checks.due("off of glass", 30, () -> x.tells(5, 1, 1));
        Checks.due("off of tin", 100, () -> x.tells(5, 2, 1));
        Checks.due("towns of tin", 0, () -> x.tells(5, 2, 2));
        Checks.due("least in 4", 0, () -> x.tells(4, 2, 3));
        Checks.due("least in 5", 80, () -> x.tells(5, 2, 3));
        Checks.due("trips in 6", 4, () -> x.tells(6, 2, 4));
        Checks.due("orphans in 6", 0, () -> x.tells(6, 2, 5));
        Checks.due("orphans in 40", 1, () -> x.tells(40, 2, 5));
        PacketLaw y = new PacketLaw();
        Checks.law(y, 0, "target paper 40;target paper 50;least 1;least 2;");
        Checks.due("the last clause counts", 50, () -> y.tells(0, 0, 0));
        Checks.due("the last least counts", 2, () -> y.tells(0, 0, 3));
        Checks.dueThrow("year -1", ARGUMENT, () -> x.tells(-1, 0, 0));
        Checks.dueThrow("year 41", ARGUMENT, () -> x.tells(41, 0, 0));
        Checks.dueThrow("sort -1", ARGUMENT, () -> x.tells(0, -1, 3));
        Checks.dueThrow("sort 5", ARGUMENT, () -> x.tells(0, 5, 4));
        Checks.dueThrow("what -1", ARGUMENT, () -> x.tells(0, 0, -1));
        Checks.dueThrow("what 6", ARGUMENT, () -> x.tells(0, 0, 6));
    }

    private static void promise7() {
        Checks.part("promise 7");
        PacketLaw x = new PacketLaw();
        Checks.law(x, 1, "least 1;fee glass=1;fee glass=2;fee tin=3;");
        Checks.law(x, 0, times("least 1;", 15) + "fee film=5;");
        Checks.law(x, 3, "fee glass=1;ban mixed;");
        Checks.due("glass in 0", -1, () -> x.why(0, 1));
        Checks.due("glass in 1", 2, () -> x.why(1, 1));
        Checks.due("tin in 2", 3, () -> x.why(2, 2));
        Checks.due("film", 115, () -> x.why(0, 3));
        Checks.due("glass in 3", 200, () -> x.why(3, 1));
        Checks.due("mixed", -1, () -> x.why(40, 4));
        Checks.dueThrow("year -1", ARGUMENT, () -> x.why(-1, 0));
        Checks.dueThrow("year 41", ARGUMENT, () -> x.why(41, 0));
        Checks.dueThrow("sort -1", ARGUMENT, () -> x.why(0, -1));
        Checks.dueThrow("sort 5", ARGUMENT, () -> x.why(0, 5));
    }

    private static void promise8() {
        Checks.part("promise 8");
        PacketLaw x = new PacketLaw();
        for (int i = 0; i < 10; i++) {
            int number = i;
            Checks.due("maker()", number, x::maker);
        }
        Checks.dueThrow("an eleventh", STATE, x::maker);
        Checks.due("count(2)", 10, () -> x.count(2));
    }

    private static void promise9() {
        Checks.part("promise 9");
        PacketLaw x = withMakers(2);
        Checks.dueThrow("packet(2)", NO_SUCH, () -> x.packet(2));
        Checks.dueThrow("packet(-1)", NO_SUCH, () -> x.packet(-1));
        for (int i = 0; i < 20; i++) {
            int number = i;
            Checks.due("packet()", number, () -> x.packet(number % 2));
        }
        Checks.due("a 21st", -1, () -> x.packet(0));
        Checks.dueThrow("a 21st of no maker", NO_SUCH, () -> x.packet(2));
        Checks.due("count(3)", 20, () -> x.count(3));
        Checks.dueThrow("without makes", ARGUMENT, () -> x.made(0, 0));
    }

    private static void promise10() {
        Checks.part("promise 10");
        PacketLaw x = withMakers(1);
        x.packet(0);
        x.packet(0);
        Checks.dueThrow("packet 2", NO_SUCH, () -> x.make(2, 0, 0, 0, 0, 0, 0));
        Checks.dueThrow("packet -1 and wrong grams", NO_SUCH, () -> x.make(-1, 999, 0, 0, 0, 0, 0));
        Checks.dueThrow("paper 201", ARGUMENT, () -> x.make(0, 201, 0, 0, 0, 0, 0));
        Checks.dueThrow("glass -1", ARGUMENT, () -> x.make(0, 0, -1, 0, 0, 0, 0));
        Checks.dueThrow("tin 201", ARGUMENT, () -> x.make(0, 0, 0, 201, 0, 0, 0));
        Checks.dueThrow("film -1", ARGUMENT, () -> x.make(0, 0, 0, 0, -1, 0, 0));
        Checks.dueThrow("mixed 201", ARGUMENT, () -> x.make(0, 0, 0, 0, 0, 201, 0));
        Checks.dueThrow("cost 1001", ARGUMENT, () -> x.make(0, 0, 0, 0, 0, 0, 1001));
        Checks.dueThrow("cost -1", ARGUMENT, () -> x.make(0, 0, 0, 0, 0, 0, -1));
        Checks.due("the most", 0, () -> x.make(0, 200, 200, 200, 200, 200, 1000));
        Checks.due("the least", 1, () -> x.make(0, 0, 0, 0, 0, 0, 0));
        Checks.due("of another packet", 0, () -> x.make(1, 1, 2, 3, 4, 5, 6));
        for (int i = 2; i < 5; i++) {
            int number = i;
            Checks.due("make", number, () -> x.make(0, number, 0, 0, 0, 0, 0));
        }
        Checks.due("a sixth", -1, () -> x.make(0, 1, 0, 0, 0, 0, 0));
        Checks.dueThrow("a sixth that is none such", ARGUMENT, () -> x.make(0, 201, 0, 0, 0, 0, 0));
        x.sold(1, 0, 1, 0, 1);
        for (int sort = 0; sort < 5; sort++) {
            int s = sort;
            Checks.due("grams of sort " + s, s + 1, () -> x.kilos(1, s, 0));
        }
    }

    private static void promise11() {
        Checks.part("promise 11");
        PacketLaw x = withMakers(1);
        x.packet(0);
        x.packet(0);
        x.make(0, 10, 0, 0, 0, 0, 0);
        x.make(0, 20, 0, 0, 0, 0, 0);
        x.sold(0, 0, 1, 0, 1);
        Checks.due("make 0 at first", 10, () -> x.kilos(0, 0, 0));
        Checks.due("made(0,1)", 0, () -> x.made(0, 1));
        Checks.due("made so", 20, () -> x.kilos(0, 0, 0));
        Checks.due("made(0,1) again", 1, () -> x.made(0, 1));
        Checks.due("made(0,0)", 1, () -> x.made(0, 0));
        Checks.dueThrow("made(0,2)", ARGUMENT, () -> x.made(0, 2));
        Checks.dueThrow("made(0,-1)", ARGUMENT, () -> x.made(0, -1));
        Checks.dueThrow("made(1,0)", ARGUMENT, () -> x.made(1, 0));
        Checks.dueThrow("made(2,0)", NO_SUCH, () -> x.made(2, 0));
        Checks.dueThrow("made(-1,0)", NO_SUCH, () -> x.made(-1, 0));
        Checks.due("still so", 10, () -> x.kilos(0, 0, 0));
    }

    private static void promise12() {
        Checks.part("promise 12");
        PacketLaw x = withMakers(1);
        x.packet(0);
        x.make(0, 1, 0, 0, 0, 0, 0);
        Checks.due("at first", 0, () -> x.sold(0, 40, 1000, 1000, 50));
        Checks.due("told anew", 1000, () -> x.sold(0, 40, 7, 0, 1));
        Checks.due("another year", 0, () -> x.sold(0, 0, 3, 3, 1));
        Checks.due("a year of its own", 7, () -> x.sold(0, 40, 0, 0, 1));
        Checks.dueThrow("packet 1", NO_SUCH, () -> x.sold(1, 0, 0, 0, 1));
        Checks.dueThrow("packet -1, year 41", NO_SUCH, () -> x.sold(-1, 41, 0, 0, 1));
        Checks.dueThrow("year 41", ARGUMENT, () -> x.sold(0, 41, 0, 0, 1));
        Checks.dueThrow("year -1", ARGUMENT, () -> x.sold(0, -1, 0, 0, 1));
        Checks.dueThrow("sold 1001", ARGUMENT, () -> x.sold(0, 0, 1001, 0, 1));
        Checks.dueThrow("sold -1", ARGUMENT, () -> x.sold(0, 0, -1, -1, 1));
        Checks.dueThrow("abroad above sold", ARGUMENT, () -> x.sold(0, 0, 5, 6, 1));
        Checks.dueThrow("abroad -1", ARGUMENT, () -> x.sold(0, 0, 5, -1, 1));
        Checks.dueThrow("trips 0", ARGUMENT, () -> x.sold(0, 0, 5, 5, 0));
        Checks.dueThrow("trips 51", ARGUMENT, () -> x.sold(0, 0, 5, 5, 51));
        Checks.due("a throw changes nothing", 3, () -> x.sold(0, 0, 1, 0, 1));
    }

    private static void promise13() {
        Checks.part("promise 13");
        PacketLaw x = withMakers(1);
        x.packet(0);
        Checks.due("without makes", 0, () -> x.kilos(0, 0, 0));
        x.make(0, 7, 0, 0, 0, 200, 0);
        Checks.due("nothing sold", 0, () -> x.kilos(0, 0, 0));
        x.sold(0, 3, 11, 4, 6);
        Checks.due("off 100, trips 1: 7*(1100-400)/100", 49, () -> x.kilos(0, 0, 3));
        Checks.due("another sort", 1400, () -> x.kilos(0, 4, 3));
        Checks.due("no grams", 0, () -> x.kilos(0, 1, 3));
        Checks.due("another year", 0, () -> x.kilos(0, 0, 2));
        Checks.law(x, 3, "off paper 33;off mixed 0;");
        Checks.due("7*(1100-132)/100 = 67.76", 67, () -> x.kilos(0, 0, 3));
        Checks.due("none taken off", 2200, () -> x.kilos(0, 4, 3));
        Checks.law(x, 3, "trips 4;");
        Checks.due("cut, then by 4 trips at most", 16, () -> x.kilos(0, 0, 3));
        Checks.law(x, 3, "trips 50;");
        Checks.due("by its own 6 trips", 11, () -> x.kilos(0, 0, 3));
        x.sold(0, 4, 1000, 0, 50);
        Checks.due("the most, by 50", 4000, () -> x.kilos(0, 4, 4));
        Checks.dueThrow("packet 1", NO_SUCH, () -> x.kilos(1, 9, 0));
        Checks.dueThrow("packet -1", NO_SUCH, () -> x.kilos(-1, 0, 0));
        Checks.dueThrow("sort 5", ARGUMENT, () -> x.kilos(0, 5, 0));
        Checks.dueThrow("sort -1", ARGUMENT, () -> x.kilos(0, -1, 0));
        Checks.dueThrow("year 41", ARGUMENT, () -> x.kilos(0, 0, 41));
        Checks.dueThrow("year -1", ARGUMENT, () -> x.kilos(0, 0, -1));
    }

    private static void promise14() {
        Checks.part("promise 14");
        PacketLaw x = withMakers(2);
        x.packet(0);
        x.packet(1);
        x.packet(0);
        x.packet(0);
        x.make(0, 3, 0, 0, 0, 0, 0);
        x.make(1, 5, 0, 0, 0, 0, 0);
        x.make(2, 7, 0, 0, 0, 0, 0);
        x.make(2, 9, 1, 0, 0, 0, 0);
        for (int p = 0; p < 4; p++) {
            x.sold(p, 2, 10, 0, 1);
        }
        Checks.due("two packets of three", 100, () -> x.truly(0, 0, 2));
        Checks.due("the other's", 50, () -> x.truly(1, 0, 2));
        x.made(2, 1);
        Checks.due("as they are made", 120, () -> x.truly(0, 0, 2));
        Checks.due("another sort", 10, () -> x.truly(0, 1, 2));
        Checks.due("another year", 0, () -> x.truly(0, 0, 1));
        Checks.dueThrow("maker 2", NO_SUCH, () -> x.truly(2, 9, 9));
        Checks.dueThrow("maker -1", NO_SUCH, () -> x.truly(-1, 0, 0));
        Checks.dueThrow("sort 5", ARGUMENT, () -> x.truly(0, 5, 0));
        Checks.dueThrow("sort -1", ARGUMENT, () -> x.truly(0, -1, 0));
        Checks.dueThrow("year 41", ARGUMENT, () -> x.truly(0, 0, 41));
        Checks.dueThrow("year -1", ARGUMENT, () -> x.truly(0, 0, -1));
    }

    private static void promise15() {
        Checks.part("promise 15");
        PacketLaw x = withMakers(2);
        x.years(2);
        Checks.dueThrow("maker 2", NO_SUCH, () -> x.declare(2, 0, 0, 0));
        Checks.dueThrow("maker -1", NO_SUCH, () -> x.declare(-1, 9, 0, 0));
        Checks.dueThrow("sort 5", ARGUMENT, () -> x.declare(0, 5, 0, 0));
        Checks.dueThrow("sort -1", ARGUMENT, () -> x.declare(0, -1, 0, 0));
        Checks.dueThrow("year 3", ARGUMENT, () -> x.declare(0, 0, 3, 0));
        Checks.dueThrow("year -1", ARGUMENT, () -> x.declare(0, 0, -1, 0));
        Checks.dueThrow("kilos -1", ARGUMENT, () -> x.declare(0, 0, 0, -1));
        Checks.dueThrow("kilos 10000001", ARGUMENT, () -> x.declare(0, 0, 0, 10000001));
        Checks.due("count(4)", 0, () -> x.count(4));
        for (int i = 1; i <= 200; i++) {
            int many = i;
            Checks.due("declare", many, () -> x.declare(many % 2, many % 5, many % 3, 10000000));
        }
        Checks.due("a 201st", -1, () -> x.declare(0, 0, 0, 0));
        Checks.dueThrow("a 201st that is none such", ARGUMENT, () -> x.declare(0, 0, 0, -1));
        Checks.due("count(4)", 200, () -> x.count(4));
        Checks.due("what was told", 10000000, () -> x.declared(0, 0, 0, 2));
    }

    private static void promise16() {
        Checks.part("promise 16");
        PacketLaw x = withMakers(2);
        x.years(1);
        x.declare(0, 2, 1, 5);
        x.declare(0, 2, 1, 6);
        x.years(3);
        x.declare(0, 2, 1, 7);
        x.declare(0, 2, 0, 8);
        x.declare(0, 3, 1, 9);
        x.declare(1, 2, 1, 10);
        x.years(1);
        x.declare(0, 2, 1, 0);
        Checks.due("known in 0", 0, () -> x.declared(0, 2, 1, 0));
        Checks.due("known in 1", 6, () -> x.declared(0, 2, 1, 1));
        Checks.due("known in 3", 6, () -> x.declared(0, 2, 1, 3));
        Checks.due("known in 4", 7, () -> x.declared(0, 2, 1, 4));
        Checks.due("known in 5", 0, () -> x.declared(0, 2, 1, 5));
        Checks.due("known in the highest", 0, () -> x.declared(0, 2, 1, HIGHEST));
        Checks.due("known in the lowest", 0, () -> x.declared(0, 2, 1, LOWEST));
        Checks.due("known in 41 of another sort", 9, () -> x.declared(0, 3, 1, 41));
        Checks.due("another year", 8, () -> x.declared(0, 2, 0, 4));
        Checks.due("another maker", 10, () -> x.declared(1, 2, 1, 4));
        Checks.due("year 40", 0, () -> x.declared(1, 2, 40, 40));
        Checks.dueThrow("maker 2", NO_SUCH, () -> x.declared(2, 5, 0, 0));
        Checks.dueThrow("maker -1", NO_SUCH, () -> x.declared(-1, 0, 0, 0));
        Checks.dueThrow("sort 5", ARGUMENT, () -> x.declared(0, 5, 0, 0));
        Checks.dueThrow("sort -1", ARGUMENT, () -> x.declared(0, -1, 0, 0));
        Checks.dueThrow("year 41", ARGUMENT, () -> x.declared(0, 0, 41, 0));
        Checks.dueThrow("year -1", ARGUMENT, () -> x.declared(0, 0, -1, 0));
    }

    private static void promise17() {
        Checks.part("promise 17");
        PacketLaw x = withMakers(2);
        Checks.dueTruth("without least", false, () -> x.small(0, 0, 0));
        Checks.law(x, 1, "least 100;");
        x.years(1);
        x.declare(0, 0, 1, 60);
        x.declare(0, 4, 1, 39);
        Checks.dueTruth("not in force", false, () -> x.small(0, 0, 1));
        Checks.dueTruth("99 of 100", true, () -> x.small(0, 1, 1));
        x.years(1);
        x.declare(0, 4, 1, 40);
        Checks.dueTruth("100 of 100", false, () -> x.small(0, 1, 2));
        Checks.dueTruth("as known before", true, () -> x.small(0, 1, 1));
        Checks.dueTruth("another maker", true, () -> x.small(1, 1, 2));
        Checks.dueTruth("another year", true, () -> x.small(0, 2, 2));
        Checks.dueThrowOfTruth("maker 2", NO_SUCH, () -> x.small(2, 41, 0));
        Checks.dueThrowOfTruth("maker -1", NO_SUCH, () -> x.small(-1, 0, 0));
        Checks.dueThrowOfTruth("year 41", ARGUMENT, () -> x.small(0, 41, 0));
        Checks.dueThrowOfTruth("year -1", ARGUMENT, () -> x.small(0, -1, 0));
    }

    private static void promise18() {
        Checks.part("promise 18");
        PacketLaw x = withMakers(2);
        x.declare(0, 0, 0, 10000);
        x.declare(0, 1, 0, 555);
        Checks.due("without a law: 100 a thousand", 1055, () -> x.fee(0, 0, 0));
        Checks.law(x, 0, "fee paper=9;fee glass=9;");
        Checks.due("each cut: 90 and 4.995", 94, () -> x.fee(0, 0, 0));
        Checks.law(x, 1, "fee paper=1000;");
        Checks.due("by the first year's laws", 94, () -> x.fee(0, 0, 0));
        x.years(1);
        x.declare(0, 1, 0, 556);
        Checks.due("as known in 0", 94, () -> x.fee(0, 0, 0));
        Checks.due("as known in 1", 95, () -> x.fee(0, 0, 1));
        Checks.due("before all", 0, () -> x.fee(0, 0, -1));
        Checks.law(x, 0, "least 9999;");
        Checks.due("not small", 95, () -> x.fee(0, 0, 1));
        x.declare(0, 0, 0, 9442);
        Checks.due("small by one", 0, () -> x.fee(0, 0, 1));
        Checks.due("not small before", 94, () -> x.fee(0, 0, 0));
        PacketLaw y = withMakers(1);
        for (int sort = 0; sort < 5; sort++) {
            y.declare(0, sort, 0, 10000000);
        }
        Checks.law(y, 0, "fee paper=9999*9999;fee glass=9999*9999;fee tin=9999*9999;fee film=9999*11;fee mixed=9999*10+10;");
        Checks.due("above 32 bits", 5000000000L, () -> y.fee(0, 0, 0));
        Checks.dueThrow("maker 2", NO_SUCH, () -> x.fee(2, 41, 0));
        Checks.dueThrow("maker -1", NO_SUCH, () -> x.fee(-1, 0, 0));
        Checks.dueThrow("year 41", ARGUMENT, () -> x.fee(0, 41, 0));
        Checks.dueThrow("year -1", ARGUMENT, () -> x.fee(0, -1, 0));
    }

    /** 1000 kilograms of tin declared: the fee is the value. */
    private static void value(String sum, long want) {
        PacketLaw x = withMakers(1);
        x.declare(0, 2, 0, 1000);
        Checks.due("law of " + sum, 0, () -> Checks.law(x, 0, "fee tin=" + sum + ";"));
        Checks.due("value of " + sum, want, () -> x.fee(0, 0, 0));
    }

    private static void values() {
        Checks.part("promise 18, values");
        value("0", 0);
        value("9999", 9999);
        value("0007", 7);
        value("2+3*4", 14);
        value("(2+3)*4", 20);
        value("20-5-3", 12);
        value("100/7*7", 98);
        value("7/2/2", 1);
        value("0-7/2+10", 7);
        value("(0-7)/2+10", 7);
        value("5/0+3", 3);
        value("5/(3-3)", 0);
        value("0-1", 0);
        value("0-9999*9999", 0);
        value("9999*10+10", 100000);
        value("9999*10+11", 100000);
        value("9999*10+9", 99999);
        value("min(5,3)+max(5,3)*10", 53);
        value("min(0-5,3)+10", 5);
        value("max(0-5,0-3)+10", 7);
        value("max(min(9,4),min(8,5))", 5);
        // 32768 * 65536 wraps to the lowest number; less 1 it is the highest
        value("(4096*8)*(8192*8)", 0);
        value("((4096*8)*(8192*8)-1)/9999/9999", 21);
        value("9999*9999*9999*9999/9999/100", 1089);
        value("(4096*8)*(8192*8)/(0-1)+5", 0);
        value("0-((4096*8)*(8192*8)/(0-1)+4)+4", 0);
        value("0-(4096*8)*(8192*8)/(0-1)-2147*1000*1000-483*1000", 648);
        value("(4096*8)*(8192*8)-1-2147*1000*1000-483*1000", 647);
        value("8192*8*8192*8+5", 5);
    }

    private static void facts() {
        Checks.part("promise 18, facts");
        PacketLaw x = withMakers(3);
        x.years(7);
        x.declare(0, 3, 7, 1000);
        x.declare(0, 2, 7, 1000);
        x.declare(1, 3, 7, 1999);
        x.declare(2, 2, 7, 5);
        x.packet(0);
        x.packet(1);
        x.packet(0);
        x.packet(0);
        x.make(0, 0, 0, 4, 50, 0, 0);
        x.make(0, 0, 0, 5, 60, 1, 0);
        x.make(1, 9, 9, 9, 99, 9, 0);
        x.make(2, 1, 0, 0, 70, 0, 0);
        Checks.law(x, 0, "fee tin=0;fee film=year;");
        Checks.due("year: the first", 7, () -> x.fee(0, 7, 9));
        Checks.law(x, 0, "fee film=kilos;");
        Checks.due("kilos: declared of that sort", 1000, () -> x.fee(0, 7, 7));
        Checks.law(x, 0, "fee film=share;");
        Checks.due("share: 33.3", 33, () -> x.fee(0, 7, 7));
        Checks.law(x, 0, "fee film=grams;");
        Checks.due("grams together", 120, () -> x.fee(0, 7, 7));
        x.made(0, 1);
        Checks.due("grams as they are made", 130, () -> x.fee(0, 7, 7));
        Checks.law(x, 0, "fee film=layers;");
        Checks.due("layers: the most", 3, () -> x.fee(0, 7, 7));
        x.made(0, 0);
        Checks.due("layers as they are made", 2, () -> x.fee(0, 7, 7));
        Checks.due("of another maker", 9, () -> x.fee(1, 7, 7));
        Checks.law(x, 0, "fee film=0;fee tin=share;");
        Checks.due("share of tin: 1000 of 1005", 99, () -> x.fee(0, 7, 7));
        x.years(1);
        x.declare(2, 2, 7, 3000);
        Checks.due("share as known in 7", 99, () -> x.fee(0, 7, 7));
        Checks.due("share as known in 8", 25, () -> x.fee(0, 7, 8));
        PacketLaw y = withMakers(1);
        Checks.law(y, 0, "fee paper=grams+layers+share+7;");
        y.declare(0, 0, 0, 1000);
        Checks.due("without packets, alone", 107, () -> y.fee(0, 0, 0));
    }

    private static void promise19() {
        Checks.part("promise 19");
        PacketLaw x = withMakers(2);
        x.declare(0, 0, 0, 5000);
        Checks.due("at first", 500, () -> x.bill(0, 0));
        Checks.due("nothing more", 0, () -> x.bill(0, 0));
        x.declare(0, 0, 0, 4000);
        Checks.due("below 0", -100, () -> x.bill(0, 0));
        x.years(2);
        x.declare(0, 0, 0, 9000);
        Checks.due("as known now", 500, () -> x.bill(0, 0));
        Checks.law(x, 0, "fee paper=0;");
        Checks.due("all of it back", -900, () -> x.bill(0, 0));
        x.declare(0, 0, 1, 1000);
        x.declare(1, 1, 1, 1000);
        Checks.due("another year", 0, () -> x.bill(0, 1));
        Checks.due("another maker", 100, () -> x.bill(1, 1));
        Checks.due("a year to come", 0, () -> x.bill(1, 40));
        Checks.dueThrow("maker 2", NO_SUCH, () -> x.bill(2, 41));
        Checks.dueThrow("maker -1", NO_SUCH, () -> x.bill(-1, 0));
        Checks.dueThrow("year 41", ARGUMENT, () -> x.bill(0, 41));
        Checks.dueThrow("year -1", ARGUMENT, () -> x.bill(0, -1));
    }

    private static void promise20() {
        Checks.part("promise 20");
        PacketLaw x = withMakers(1);
        x.declare(0, 0, 0, 1000);
        x.declare(0, 1, 0, 1000);
        Checks.law(x, 0, "fee glass=7;fee paper=1;");
        Checks.put(x, "fee paper=50;");
        Checks.dueThrow("maker 1", NO_SUCH, () -> x.tried(1, 41, 99));
        Checks.dueThrow("maker -1", NO_SUCH, () -> x.tried(-1, 0, 0));
        Checks.dueThrow("year 41", ARGUMENT, () -> x.tried(0, 41, 13));
        Checks.dueThrow("year -1", ARGUMENT, () -> x.tried(0, -1, 13));
        Checks.dueThrow("n 21", ARGUMENT, () -> x.tried(0, 0, 21));
        Checks.dueThrow("n -1", ARGUMENT, () -> x.tried(0, 0, -1));
        Checks.due("the tape is kept", 20, () -> x.count(11));
        Checks.due("tried", 57, () -> x.tried(0, 0, 13));
        Checks.due("the tape is empty", 0, () -> x.count(11));
        Checks.due("no law is left", 1, () -> x.count(1));
        Checks.due("the fee is as before", 8, () -> x.fee(0, 0, 0));
        Checks.due("an empty text", 8, () -> x.tried(0, 0, 0));
        Checks.due("another least", 0, () -> Checks.tried(x, 0, 0, "least 2001;"));
        Checks.due("a fault of kind 1", -9, () -> Checks.tried(x, 0, 0, "least;"));
        Checks.due("its place", 5, x::fault);
        Checks.due("a fault of kind 2", -8, () -> Checks.tried(x, 0, 0, "trips 51;"));
        Checks.due("a fault of kind 3", -7, () -> Checks.tried(x, 0, 0, times("least 1;", 17)));
        Checks.due("the tape is empty", 0, () -> x.count(11));
        for (int i = 1; i < 10; i++) {
            x.law(0, 0);
        }
        Checks.due("behind ten laws", 57, () -> Checks.tried(x, 0, 0, "fee paper=50;"));
        Checks.due("a fault behind ten laws", -9, () -> Checks.tried(x, 0, 0, "x"));
        Checks.due("ten laws are left", 10, () -> x.count(1));
        Checks.due("the fee is as before", 8, () -> x.fee(0, 0, 0));
        x.years(1);
        x.declare(0, 0, 0, 2000);
        Checks.due("as known now, in force in that year", 107, () -> Checks.tried(x, 0, 0, "fee paper=50;"));
        x.years(30);
        x.declare(0, 0, 30, 1000);
        Checks.due("in force from a later year", 50, () -> Checks.tried(x, 0, 30, "fee paper=50;"));
        String longest = "fee paper=1" + times("+1", 194) + ";";
        for (int i = 0; i < 9; i++) {
            Checks.due("the longest text, time and again", 195, () -> Checks.tried(x, 0, 30, longest));
            Checks.due("the same, spoilt", -9, () -> Checks.tried(x, 0, 30, longest.replace(';', '+')));
        }
    }

    private static void promise21() {
        Checks.part("promise 21");
        PacketLaw x = withMakers(1);
        x.packet(0);
        x.packet(0);
        x.make(0, 5, 0, 0, 0, 0, 0);
        x.make(0, 0, 5, 0, 0, 0, 0);
        Checks.dueTruth("without a law", false, () -> x.banned(0, 0, 0));
        Checks.law(x, 4, "ban paper;");
        Checks.dueTruth("not yet", false, () -> x.banned(0, 0, 3));
        Checks.dueTruth("from then on", true, () -> x.banned(0, 0, 4));
        Checks.dueTruth("without grams of it", false, () -> x.banned(0, 1, 4));
        Checks.law(x, 0, "ban glass if grams>4 and layers<2;ban glass if 1<0;");
        Checks.dueTruth("one that holds is enough", true, () -> x.banned(0, 1, 0));
        Checks.law(x, 0, "ban paper if 1<0;");
        Checks.dueTruth("a later one takes none away", true, () -> x.banned(0, 0, 40));
        Checks.dueThrowOfTruth("make 2", ARGUMENT, () -> x.banned(0, 2, 0));
        Checks.dueThrowOfTruth("make -1", ARGUMENT, () -> x.banned(0, -1, 0));
        Checks.dueThrowOfTruth("without makes", ARGUMENT, () -> x.banned(1, 0, 0));
        Checks.dueThrowOfTruth("year 41", ARGUMENT, () -> x.banned(0, 0, 41));
        Checks.dueThrowOfTruth("year -1", ARGUMENT, () -> x.banned(0, 0, -1));
        Checks.dueThrowOfTruth("packet 2", NO_SUCH, () -> x.banned(2, 0, 41));
        Checks.dueThrowOfTruth("packet -1", NO_SUCH, () -> x.banned(-1, 0, 0));
    }

    /** A make of 30 grams of tin and 2 of film, in year 6; much is declared and made otherwise. */
    private static void condition(String condition, boolean want) {
        PacketLaw x = withMakers(1);
        x.years(6);
        x.packet(0);
        x.make(0, 1, 1, 1, 1, 1, 1);
        x.make(0, 0, 0, 30, 2, 0, 1);
        x.sold(0, 6, 100, 0, 1);
        x.declare(0, 2, 6, 5000);
        Checks.due("law of " + condition, 0, () -> Checks.law(x, 0, "ban tin if " + condition + ";"));
        Checks.dueTruth(condition, want, () -> x.banned(0, 1, 6));
    }

    private static void conditions() {
        Checks.part("promise 21, conditions");
        condition("grams=30", true);
        condition("grams=31", false);
        condition("layers=2", true);
        condition("kilos=0", true);
        condition("share=0", true);
        condition("year=6", true);
        condition("1<2", true);
        condition("2<2", false);
        condition("2>2", false);
        condition("3>2", true);
        condition("0-1<0", true);
        condition("0>0-1", true);
        condition("grams/10+1=layers*2", true);
        condition("not 1=1", false);
        condition("not 1=2", true);
        condition("not not 1=1", true);
        condition("not 1=1 or 1=1", true);
        condition("not 1=2 and 1=2", false);
        condition("1=1 or 1=1 and 1=2", true);
        condition("[1=1 or 1=1] and 1=2", false);
        condition("1=2 and 1=2 or 1=1", true);
        condition("not [1=1 and 1=2]", true);
        condition("not [1=2 or 1=1]", false);
        condition("1=1 and 2=2 and 3=4", false);
        condition("1=2 or 2=3 or 3=3", true);
        condition("min(grams,5)=5 and max(grams,50)=50", true);
    }

    private static void promise22() {
        Checks.part("promise 22");
        PacketLaw x = withMakers(2);
        Checks.due("without packets", 0, () -> x.cheapest(0, 0, -1));
        Checks.due("its packet 0", -1, () -> x.cheapest(0, 0, 0));
        x.packet(0);
        Checks.due("without makes", -1, () -> x.cheapest(0, 0, -1));
        Checks.due("without makes, packet 0", -1, () -> x.cheapest(0, 0, 0));
        x.make(0, 10, 0, 0, 0, 0, 5);
        x.make(0, 0, 8, 0, 0, 0, 5);
        x.make(0, 0, 0, 8, 0, 0, 5);
        x.sold(0, 2, 100, 0, 1);
        Checks.due("nothing sold: the first", 0, () -> x.cheapest(0, 0, 0));
        Checks.due("500 and 80 of glass", 580, () -> x.cheapest(0, 2, -1));
        Checks.due("of alike ones the first", 1, () -> x.cheapest(0, 2, 0));
        Checks.due("no such packet", -1, () -> x.cheapest(0, 2, 1));
        Checks.due("no such packet", -1, () -> x.cheapest(0, 2, 4));
        Checks.law(x, 2, "ban glass;");
        Checks.due("glass is banned", 2, () -> x.cheapest(0, 2, 0));
        Checks.law(x, 2, "ban tin;ban paper;");
        Checks.due("all are banned", -1, () -> x.cheapest(0, 2, -1));
        Checks.due("all are banned, packet 0", -1, () -> x.cheapest(0, 2, 0));
        Checks.due("not in 1", 0, () -> x.cheapest(0, 1, -1));
        Checks.due("the other maker", 0, () -> x.cheapest(1, 2, -1));
        Checks.due("nothing is made otherwise", 0, () -> x.made(0, 0));
        Checks.dueThrow("maker 2", NO_SUCH, () -> x.cheapest(2, 41, 9));
        Checks.dueThrow("maker -1", NO_SUCH, () -> x.cheapest(-1, 0, 0));
        Checks.dueThrow("year 41", ARGUMENT, () -> x.cheapest(0, 41, 0));
        Checks.dueThrow("year -1", ARGUMENT, () -> x.cheapest(0, -1, 0));
        Checks.dueThrow("what 5", ARGUMENT, () -> x.cheapest(0, 0, 5));
        Checks.dueThrow("what -2", ARGUMENT, () -> x.cheapest(0, 0, -2));
    }

    private static void choices() {
        Checks.part("promise 22, choices");
        // six packets: the sixth stays as it is made, its cost does not count, its kilograms do
        PacketLaw x = withMakers(2);
        for (int p = 0; p < 6; p++) {
            x.packet(0);
            x.make(p, 1, 0, 0, 0, 0, 10);
            x.sold(p, 0, 1, 0, 1);
        }
        x.make(5, 100, 0, 0, 0, 0, 0);
        x.make(4, 3, 0, 0, 0, 0, 9);
        Checks.law(x, 0, "fee paper=1000;");
        Checks.due("50 and 6 kilograms", 56, () -> x.cheapest(0, 0, -1));
        Checks.due("packet 4: 10+1 or 9+3", 0, () -> x.cheapest(0, 0, 4));
        x.made(5, 1);
        Checks.due("50 and 105 kilograms", 155, () -> x.cheapest(0, 0, -1));
        Checks.law(x, 0, "fee paper=grams*100;");
        Checks.due("grams of all six: 105*10.5, cut, and 50", 1152, () -> x.cheapest(0, 0, -1));
        Checks.law(x, 0, "ban paper if grams=100;");
        Checks.due("the sixth is no part of a row", 1152, () -> x.cheapest(0, 0, -1));
        x.make(5, 1, 1, 1, 1, 0, 1000);
        x.made(5, 2);
        x.sold(5, 0, 0, 0, 1);
        Checks.law(x, 0, "fee paper=layers*1000;");
        Checks.due("the sixth has the most layers: 50 and 5 kilograms", 70, () -> x.cheapest(0, 0, -1));
        x.packet(0);
        x.packet(0);
        x.make(7, 1, 0, 0, 0, 0, 1);
        Checks.due("a seventh without makes, an eighth", 70, () -> x.cheapest(0, 0, -1));
        x.packet(1);
        x.make(8, 5, 0, 0, 0, 0, 1);
        x.sold(8, 0, 1, 0, 1);
        Checks.due("another maker has none of these layers", 6, () -> x.cheapest(1, 0, -1));
        PacketLaw v = withMakers(1);
        for (int p = 0; p < 7; p++) {
            v.packet(0);
            v.make(p, 1, 0, 0, p == 5 ? 1 : 0, 0, 0);
        }
        v.sold(0, 0, 10, 0, 1);
        Checks.law(v, 0, "fee paper=layers*1000;");
        Checks.due("the most layers of the sixth and seventh: 10 by 2", 20, () -> v.cheapest(0, 0, -1));
        // what was declared is replaced for this maker alone, in shares and in small
        PacketLaw y = withMakers(2);
        y.packet(0);
        y.make(0, 30, 0, 0, 0, 0, 0);
        y.make(0, 10, 0, 0, 0, 0, 0);
        y.sold(0, 0, 1000, 0, 1);
        y.declare(0, 0, 0, 7);
        y.declare(1, 0, 0, 10000);
        Checks.law(y, 0, "fee paper=share*share;");
        Checks.due("10000 times 50*50 by 1000", 25000, () -> y.cheapest(0, 0, -1));
        Checks.due("the second", 1, () -> y.cheapest(0, 0, 0));
        Checks.law(y, 0, "fee paper=layers;");
        Checks.due("layers by these makes", 10, () -> y.cheapest(0, 0, -1));
        PacketLaw z = withMakers(1);
        z.packet(0);
        z.make(0, 9, 0, 0, 0, 0, 1);
        z.make(0, 11, 0, 0, 0, 0, 0);
        z.sold(0, 0, 1000, 0, 1);
        Checks.law(z, 0, "least 9999;");
        Checks.due("small: 1000 coins and no fee, or 1100", 1000, () -> z.cheapest(0, 0, -1));
        Checks.due("as small", 0, () -> z.cheapest(0, 0, 0));
        // alike ones: packet by packet
        PacketLaw w = withMakers(1);
        w.packet(0);
        w.packet(0);
        for (int make = 0; make < 2; make++) {
            w.make(0, 10, 0, 0, 0, 0, 0);
            w.make(1, 10, 0, 0, 0, 0, 0);
        }
        w.make(0, 0, 0, 0, 5, 0, 0);
        w.make(1, 0, 0, 0, 5, 0, 0);
        w.sold(0, 0, 100, 0, 1);
        w.sold(1, 0, 100, 0, 1);
        Checks.law(w, 0, "fee paper=kilos/100;fee film=kilos/50;");
        // 2000 of paper: 20*2; 1000 and 500: 10+5; 1000 of film: 20
        Checks.due("one of each", 15, () -> w.cheapest(0, 0, -1));
        Checks.due("the first packet's first make", 0, () -> w.cheapest(0, 0, 0));
        Checks.due("the second packet's last make", 2, () -> w.cheapest(0, 0, 1));
        w.packet(0);
        Checks.due("a third packet without makes", -1, () -> w.cheapest(0, 0, -1));
    }

    private static void promise23() {
        Checks.part("promise 23");
        PacketLaw x = new PacketLaw();
        for (int i = 0; i < 4; i++) {
            int number = i;
            Checks.due("scheme()", number, x::scheme);
        }
        Checks.dueThrow("a fifth", STATE, x::scheme);
        Checks.due("count(5)", 4, () -> x.count(5));
    }

    private static void promise24() {
        Checks.part("promise 24");
        PacketLaw x = withSchemes(2, 2);
        Checks.dueThrow("maker 2", NO_SUCH, () -> x.join(2, 9, 99));
        Checks.dueThrow("maker -1", NO_SUCH, () -> x.join(-1, 0, 0));
        Checks.dueThrow("scheme 2", INDEX, () -> x.join(0, 2, 99));
        Checks.dueThrow("scheme -2", INDEX, () -> x.join(0, -2, 0));
        Checks.dueThrow("year 41", ARGUMENT, () -> x.join(0, 0, 41));
        Checks.dueThrow("year -1", ARGUMENT, () -> x.join(0, -1, -1));
        for (int i = 1; i <= 60; i++) {
            int many = i;
            Checks.due("join", many, () -> x.join(many % 2, many % 3 - 1, many % 41));
        }
        Checks.due("a 61st", -1, () -> x.join(0, 1, 0));
        Checks.dueThrow("a 61st of no scheme", INDEX, () -> x.join(0, 2, 0));
        Checks.due("count(12)", 60, () -> x.count(12));
    }

    private static void promise25() {
        Checks.part("promise 25");
        PacketLaw x = withSchemes(2, 3);
        Checks.due("at first", -1, () -> x.in(0, 0));
        x.join(0, 1, 5);
        Checks.due("before", -1, () -> x.in(0, 4));
        Checks.due("from then on", 1, () -> x.in(0, 5));
        Checks.due("still", 1, () -> x.in(0, 40));
        x.join(0, 2, 3);
        Checks.due("told later, of an earlier year", 2, () -> x.in(0, 4));
        Checks.due("the latest year counts", 1, () -> x.in(0, 5));
        x.join(0, 0, 5);
        Checks.due("of several the last told", 0, () -> x.in(0, 6));
        x.join(0, -1, 5);
        Checks.due("left", -1, () -> x.in(0, 6));
        Checks.due("another maker", -1, () -> x.in(1, 6));
        Checks.dueThrow("maker 2", NO_SUCH, () -> x.in(2, 41));
        Checks.dueThrow("maker -1", NO_SUCH, () -> x.in(-1, 0));
        Checks.dueThrow("year 41", ARGUMENT, () -> x.in(0, 41));
        Checks.dueThrow("year -1", ARGUMENT, () -> x.in(0, -1));
    }

    private static void promise26() {
        Checks.part("promise 26");
        PacketLaw x = withSchemes(3, 2);
        x.join(0, 0, 0);
        x.join(1, 0, 0);
        x.join(2, 1, 0);
        x.declare(0, 0, 0, 1000);
        x.declare(1, 0, 0, 99);
        x.declare(1, 1, 0, 800);
        x.declare(2, 0, 0, 500);
        Checks.due("weight", 1099, () -> x.owes(0, 0, 0, 0, 0));
        Checks.due("bound without target", 0, () -> x.owes(0, 0, 0, 0, 1));
        Checks.law(x, 0, "target paper 33;least 900;");
        Checks.due("small ones don't weigh", 1000, () -> x.owes(0, 0, 0, 0, 0));
        Checks.due("the other is small", 0, () -> x.owes(1, 0, 0, 0, 0));
        Checks.law(x, 0, "least 899;");
        Checks.due("899 is not small", 1099, () -> x.owes(0, 0, 0, 0, 0));
        Checks.due("33 hundredths of 1099, cut", 362, () -> x.owes(0, 0, 0, 0, 1));
        Checks.due("as known before all", 0, () -> x.owes(0, 0, 0, -1, 0));
        x.join(1, -1, 1);
        Checks.due("in it in that year", 1099, () -> x.owes(0, 0, 0, 0, 0));
        x.load(0, 1000, 100, 0, 0, 0, 0);
        x.note(0, 0, 100, 0);
        Checks.due("evidence", 100, () -> x.owes(0, 0, 0, 0, 2));
        Checks.due("short", 262, () -> x.owes(0, 0, 0, 0, 3));
        x.years(1);
        x.note(0, 0, 300, 0);
        x.note(0, 0, 50, 1);
        x.note(0, 0, 601, 0);
        Checks.due("a note told in 1 counts for 0", 400, () -> x.owes(0, 0, 0, 1, 2));
        Checks.due("as known in 0", 100, () -> x.owes(0, 0, 0, 0, 2));
        Checks.due("not for 1", 0, () -> x.owes(0, 0, 1, 1, 2));
        Checks.due("another scheme's", 50, () -> x.owes(1, 0, 0, 1, 2));
        Checks.due("another sort", 0, () -> x.owes(0, 1, 0, 1, 2));
        Checks.due("no longer short", 0, () -> x.owes(0, 0, 0, 1, 3));
        Checks.due("short as known in 0", 262, () -> x.owes(0, 0, 0, 0, 3));
        x.orphans(0, 0, 400);
        x.offer(0, 500, 1);
        Checks.due("bought", 1, () -> x.buy(0, 0, 0));
        x.years(1);
        Checks.due("bought is evidence", 900, () -> x.owes(0, 0, 0, 2, 2));
        Checks.due("from then on alone", 100, () -> x.owes(0, 0, 0, 0, 2));
        Checks.dueThrow("scheme 2", INDEX, () -> x.owes(2, 9, 99, 0, 9));
        Checks.dueThrow("scheme -1", INDEX, () -> x.owes(-1, 0, 0, 0, 0));
        Checks.dueThrow("sort 5", ARGUMENT, () -> x.owes(0, 5, 0, 0, 0));
        Checks.dueThrow("sort -1", ARGUMENT, () -> x.owes(0, -1, 0, 0, 0));
        Checks.dueThrow("year 41", ARGUMENT, () -> x.owes(0, 0, 41, 0, 0));
        Checks.dueThrow("year -1", ARGUMENT, () -> x.owes(0, 0, -1, 0, 0));
        Checks.dueThrow("what 5", ARGUMENT, () -> x.owes(0, 0, 0, 0, 5));
        Checks.dueThrow("what -1", ARGUMENT, () -> x.owes(0, 0, 0, 0, -1));
    }

    private static void parts(PacketLaw x, int sort, long... want) {
        for (int s = 0; s < want.length; s++) {
            int scheme = s;
            Checks.due("orphans of scheme " + s, want[s], () -> x.owes(scheme, sort, 0, 0, 4));
        }
    }

    private static void partings() {
        Checks.part("promise 26, partings");
        PacketLaw x = withSchemes(6, 4);
        Checks.law(x, 0, "orphans schemes;");
        x.orphans(0, 0, 10);
        parts(x, 0, 0, 0, 0, 0);
        for (int m = 0; m < 4; m++) {
            x.join(m, m, 0);
        }
        x.declare(0, 0, 0, 1);
        x.declare(1, 0, 0, 1);
        x.declare(2, 0, 0, 1);
        parts(x, 0, 4, 3, 3, 0);
        x.orphans(0, 0, 11);
        parts(x, 0, 4, 4, 3, 0);
        x.declare(3, 0, 0, 4);
        // 11 by 7: 1.57 and 6.28; the rests are 4, 4, 4, 2
        parts(x, 0, 2, 2, 1, 6);
        x.orphans(0, 0, 13);
        // 1.85 thrice and 7.43: rests 6, 6, 6, 3
        parts(x, 0, 2, 2, 2, 7);
        x.orphans(0, 0, 9);
        // 1.28 thrice and 5.14: rests 2, 2, 2, 1
        parts(x, 0, 2, 1, 1, 5);
        x.declare(4, 0, 0, 7);
        parts(x, 0, 2, 1, 1, 5);
        Checks.law(x, 0, "orphans makers;");
        // 9 by 14: 0.64 thrice, 2.57, 4.5 of one in no scheme; rests 9, 9, 9, 8, 7
        parts(x, 0, 1, 1, 1, 2);
        x.join(4, 3, 0);
        parts(x, 0, 1, 1, 1, 6);
        x.join(1, 0, 0);
        parts(x, 0, 2, 0, 1, 6);
        Checks.law(x, 0, "least 2;");
        // the three of one kilogram are small: 4 and 7 share 9: 3.27 and 5.72
        parts(x, 0, 0, 0, 0, 9);
        Checks.due("bound has the orphans", 9, () -> x.owes(3, 0, 0, 0, 1));
        PacketLaw y = withSchemes(3, 2);
        y.declare(0, 1, 0, 10000000);
        y.declare(1, 1, 0, 10000000);
        y.declare(2, 1, 0, 9999999);
        y.join(0, 0, 0);
        y.join(1, 1, 0);
        y.join(2, 1, 0);
        y.orphans(1, 0, 1000000);
        // 333333.34 twice and 333333.31
        parts(y, 1, 333334, 666666);
        Checks.law(y, 0, "orphans schemes;");
        parts(y, 1, 333333, 666667);
    }

    private static void promise27() {
        Checks.part("promise 27");
        PacketLaw x = new PacketLaw();
        Checks.due("at first", 0, () -> x.orphans(4, 40, 1000000));
        Checks.due("told anew", 1000000, () -> x.orphans(4, 40, 0));
        Checks.due("again", 0, () -> x.orphans(4, 40, 5));
        Checks.due("another year", 0, () -> x.orphans(4, 39, 6));
        Checks.due("another sort", 0, () -> x.orphans(3, 40, 7));
        Checks.dueThrow("sort 5", ARGUMENT, () -> x.orphans(5, 0, 0));
        Checks.dueThrow("sort -1", ARGUMENT, () -> x.orphans(-1, 0, 0));
        Checks.dueThrow("year 41", ARGUMENT, () -> x.orphans(0, 41, 0));
        Checks.dueThrow("year -1", ARGUMENT, () -> x.orphans(0, -1, 0));
        Checks.dueThrow("kilos -1", ARGUMENT, () -> x.orphans(4, 40, -1));
        Checks.dueThrow("kilos 1000001", ARGUMENT, () -> x.orphans(4, 40, 1000001));
        Checks.due("a throw changes nothing", 5, () -> x.orphans(4, 40, 5));
    }

    private static void promise28() {
        Checks.part("promise 28");
        PacketLaw x = new PacketLaw();
        Checks.dueThrow("town 6", ARGUMENT, () -> x.load(6, 1, 0, 0, 0, 0, 0));
        Checks.dueThrow("town -1", ARGUMENT, () -> x.load(-1, 1, 0, 0, 0, 0, 0));
        Checks.dueThrow("kilos 0", ARGUMENT, () -> x.load(0, 0, 0, 0, 0, 0, 0));
        Checks.dueThrow("kilos 20001", ARGUMENT, () -> x.load(0, 20001, 0, 0, 0, 0, 0));
        Checks.dueThrow("paper 101", ARGUMENT, () -> x.load(0, 1, 101, 0, 0, 0, 0));
        Checks.dueThrow("paper -1", ARGUMENT, () -> x.load(0, 1, -1, 0, 0, 0, 0));
        Checks.dueThrow("glass -1", ARGUMENT, () -> x.load(0, 1, 0, -1, 0, 0, 0));
        Checks.dueThrow("tin -1", ARGUMENT, () -> x.load(0, 1, 0, 0, -1, 0, 0));
        Checks.dueThrow("film -1", ARGUMENT, () -> x.load(0, 1, 50, 0, 0, -1, 0));
        PacketLaw y = new PacketLaw();
        Checks.due("all of glass", 0, () -> y.load(0, 1, 0, 100, 0, 0, 0));
        Checks.due("all of tin", 1, () -> y.load(0, 1, 0, 0, 100, 0, 0));
        Checks.due("all of film", 2, () -> y.load(0, 1, 0, 0, 0, 100, 0));
        Checks.dueThrow("101 together", ARGUMENT, () -> x.load(0, 1, 25, 25, 25, 26, 0));
        Checks.dueThrow("parts that wrap", ARGUMENT, () -> x.load(0, 1, HIGHEST, HIGHEST, 2, 0, 0));
        Checks.dueThrow("loss 51", ARGUMENT, () -> x.load(0, 1, 0, 0, 0, 0, 51));
        Checks.dueThrow("loss -1", ARGUMENT, () -> x.load(0, 1, 0, 0, 0, 0, -1));
        Checks.due("count(6)", 0, () -> x.count(6));
        Checks.due("the most", 0, () -> x.load(5, 20000, 25, 25, 25, 25, 50));
        Checks.due("the least", 1, () -> x.load(0, 1, 0, 0, 0, 0, 0));
        for (int i = 2; i < 60; i++) {
            int number = i;
            Checks.due("load", number, () -> x.load(0, 1, 100, 0, 0, 0, 0));
        }
        Checks.due("a 61st", -1, () -> x.load(0, 1, 0, 0, 0, 0, 0));
        Checks.dueThrow("a 61st that is none such", ARGUMENT, () -> x.load(0, 0, 0, 0, 0, 0, 0));
        Checks.due("count(6)", 60, () -> x.count(6));
    }

    private static void promise29() {
        Checks.part("promise 29");
        PacketLaw x = new PacketLaw();
        x.years(9);
        x.load(1, 999, 33, 7, 20, 25, 13);
        // 329.67, 69.93, 199.8, 249.75, 149.85; of these 87 hundredths
        int[] outs = {286, 60, 173, 216, 129, 1, 9};
        for (int what = 0; what < 7; what++) {
            int w = what;
            Checks.due("out(0," + w + ")", outs[w], () -> x.out(0, w));
        }
        int[] mixed = {0, 5, 6, 15, 16, 40, 41, 100};
        int[] grades = {0, 0, 1, 1, 2, 2, 3, 3};
        for (int i = 0; i < mixed.length; i++) {
            int load = i + 1;
            x.load(0, 20000, 100 - mixed[i], 0, 0, 0, 50);
            Checks.due("grade of " + mixed[i], grades[i], () -> x.out(load, 5));
        }
        Checks.due("20000 by half", 10000, () -> x.out(8, 4));
        x.years(1);
        Checks.due("the year in which it was told", 9, () -> x.out(8, 6));
        Checks.dueThrow("load 9", INDEX, () -> x.out(9, 9));
        Checks.dueThrow("load -1", INDEX, () -> x.out(-1, 0));
        Checks.dueThrow("what 7", ARGUMENT, () -> x.out(0, 7));
        Checks.dueThrow("what -1", ARGUMENT, () -> x.out(0, -1));
    }

    private static void promise30() {
        Checks.part("promise 30");
        PacketLaw x = withSchemes(0, 1);
        x.load(0, 20000, 100, 0, 0, 0, 0);
        Checks.dueThrow("load 1", INDEX, () -> x.note(1, 9, 0, 0));
        Checks.dueThrow("load -1", INDEX, () -> x.note(-1, 0, 1, 0));
        Checks.dueThrow("scheme 1", INDEX, () -> x.note(0, 9, 0, 1));
        Checks.dueThrow("scheme -1", INDEX, () -> x.note(0, 0, 1, -1));
        Checks.dueThrow("sort 5", ARGUMENT, () -> x.note(0, 5, 1, 0));
        Checks.dueThrow("sort -1", ARGUMENT, () -> x.note(0, -1, 1, 0));
        Checks.dueThrow("kilos 0", ARGUMENT, () -> x.note(0, 0, 0, 0));
        Checks.dueThrow("kilos 20001", ARGUMENT, () -> x.note(0, 0, 20001, 0));
        Checks.due("count(7)", 0, () -> x.count(7));
        for (int i = 0; i < 100; i++) {
            int number = i;
            Checks.due("note", number, () -> x.note(0, 0, number == 0 ? 20000 : 1, 0));
        }
        Checks.due("a 101st", -1, () -> x.note(0, 0, 1, 0));
        Checks.dueThrow("a 101st that is none such", ARGUMENT, () -> x.note(0, 0, 0, 0));
        Checks.due("count(7)", 100, () -> x.count(7));
        Checks.due("count(8)", 99, () -> x.count(8));
    }

    private static void promise31() {
        Checks.part("promise 31");
        PacketLaw x = withSchemes(0, 2);
        x.load(0, 100, 50, 50, 0, 0, 0);
        x.load(0, 100, 50, 50, 0, 0, 0);
        int[][] notes = {{0, 0, 40, 0}, {0, 0, 11, 1}, {0, 0, 10, 1}, {0, 0, 1, 0}, {0, 1, 50, 0}, {1, 0, 51, 0}, {1, 0, 50, 0}, {0, 2, 1, 0}};
        boolean[] forged = {false, true, false, true, false, true, false, true};
        for (int i = 0; i < notes.length; i++) {
            int number = i;
            x.note(notes[i][0], notes[i][1], notes[i][2], notes[i][3]);
            Checks.dueTruth("forged(" + i + ")", forged[i], () -> x.forged(number));
        }
        x.years(1);
        Checks.dueTruth("still forged", true, () -> x.forged(1));
        Checks.due("count(8)", 4, () -> x.count(8));
        Checks.dueThrowOfTruth("note 8", INDEX, () -> x.forged(8));
        Checks.dueThrowOfTruth("note -1", INDEX, () -> x.forged(-1));
    }

    private static void promise32() {
        Checks.part("promise 32");
        PacketLaw x = withSchemes(3, 2);
        x.years(1);
        Checks.due("without loads", 0, () -> x.pay(0, 1, -1));
        x.load(3, 10000, 50, 20, 0, 0, 0);
        Checks.due("without towns", 0, () -> x.pay(3, 1, -1));
        Checks.law(x, 1, "towns paper 101;towns glass 77;towns mixed 33;");
        // grade 2: 505/3 = 168, 154/3 = 51, 99/3 = 33
        Checks.due("one load", 252, () -> x.pay(3, 1, -1));
        x.load(3, 1000, 95, 0, 0, 0, 0);
        // grade 0: 95.95 and 1.65
        Checks.due("two loads", 348, () -> x.pay(3, 1, -1));
        Checks.due("another town", 0, () -> x.pay(2, 1, -1));
        Checks.due("another year", 0, () -> x.pay(3, 2, -1));
        Checks.due("nobody weighs", 0, () -> x.pay(3, 1, 0));
        x.join(0, 0, 0);
        x.join(1, 1, 0);
        x.join(2, 1, 0);
        x.declare(0, 0, 1, 5);
        x.declare(1, 1, 1, 1);
        x.declare(2, 4, 1, 1);
        // 348 by 7: 248.57 and 99.43
        Checks.due("scheme 0 by all sorts", 249, () -> x.pay(3, 1, 0));
        Checks.due("scheme 1 by all sorts", 99, () -> x.pay(3, 1, 1));
        x.years(1);
        x.declare(0, 0, 1, 2);
        Checks.due("as known now", 174, () -> x.pay(3, 1, 0));
        Checks.law(x, 0, "least 2;");
        Checks.due("small ones pay nothing", 348, () -> x.pay(3, 1, 0));
        Checks.due("small ones weigh nothing", 0, () -> x.pay(3, 1, 1));
        Checks.dueThrow("scheme 2", INDEX, () -> x.pay(9, 99, 2));
        Checks.dueThrow("scheme -2", INDEX, () -> x.pay(0, 0, -2));
        Checks.dueThrow("town 6", ARGUMENT, () -> x.pay(6, 0, -1));
        Checks.dueThrow("town -1", ARGUMENT, () -> x.pay(-1, 0, 0));
        Checks.dueThrow("year 41", ARGUMENT, () -> x.pay(0, 41, -1));
        Checks.dueThrow("year -1", ARGUMENT, () -> x.pay(0, -1, 0));
    }

    private static void promise33() {
        Checks.part("promise 33");
        PacketLaw x = withSchemes(1, 1);
        Checks.dueThrow("sort 5", ARGUMENT, () -> x.offer(5, 1, 0));
        Checks.dueThrow("sort -1", ARGUMENT, () -> x.offer(-1, 1, 0));
        Checks.dueThrow("kilos 0", ARGUMENT, () -> x.offer(0, 0, 0));
        Checks.dueThrow("kilos 100001", ARGUMENT, () -> x.offer(0, 100001, 0));
        Checks.dueThrow("price -1", ARGUMENT, () -> x.offer(0, 1, -1));
        Checks.dueThrow("price 100001", ARGUMENT, () -> x.offer(0, 1, 100001));
        Checks.due("the least", 0, () -> x.offer(0, 1, 0));
        Checks.due("the most", 1, () -> x.offer(4, 100000, 100000));
        x.join(0, 0, 0);
        x.declare(0, 4, 0, 100000);
        Checks.law(x, 0, "target mixed 100;");
        Checks.due("bought", 100000, () -> x.buy(0, 4, 0));
        for (int i = 2; i < 12; i++) {
            int number = i;
            Checks.due("offer", number, () -> x.offer(1, 1, 1));
        }
        Checks.due("there were 12", -1, () -> x.offer(0, 1, 0));
        Checks.dueThrow("a 13th that is none such", ARGUMENT, () -> x.offer(0, 0, 0));
        Checks.due("count(9)", 11, () -> x.count(9));
    }

    /** A scheme that is short of so many kilograms of paper. */
    private static PacketLaw shortOf(int kilos) {
        PacketLaw x = withSchemes(1, 2);
        x.join(0, 0, 0);
        x.declare(0, 0, 0, kilos);
        Checks.law(x, 0, "target paper 100;");
        return x;
    }

    private static void promise34() {
        Checks.part("promise 34");
        PacketLaw x = shortOf(100);
        Checks.due("no offers", -1, () -> x.buying(0, 0, 0, 0));
        Checks.due("no offers, bits", -1, () -> x.buying(0, 0, 0, 1));
        Checks.due("not short", 0, () -> x.buying(1, 0, 0, 0));
        Checks.due("not short, bits", 0, () -> x.buying(1, 0, 0, 1));
        x.offer(0, 99, 1);
        x.offer(1, 999, 1);
        Checks.due("too little", -1, () -> x.buying(0, 0, 0, 0));
        x.offer(0, 1, 5);
        Checks.due("just enough", 6, () -> x.buying(0, 0, 0, 0));
        Checks.due("just enough, bits", 5, () -> x.buying(0, 0, 0, 1));
        x.offer(0, 100, 6);
        Checks.due("the price", 6, () -> x.buying(0, 0, 0, 0));
        Checks.due("as cheap, as heavy: the first", 5, () -> x.buying(0, 0, 0, 1));
        x.offer(0, 100, 5);
        Checks.due("the least price", 16, () -> x.buying(0, 0, 0, 1));
        Checks.due("another year: not short", 0, () -> x.buying(0, 0, 1, 1));
        Checks.due("nothing is bought", 5, () -> x.count(9));
        Checks.dueThrow("scheme 2", INDEX, () -> x.buying(2, 9, 99, 9));
        Checks.dueThrow("scheme -1", INDEX, () -> x.buying(-1, 0, 0, 0));
        Checks.dueThrow("sort 5", ARGUMENT, () -> x.buying(0, 5, 0, 0));
        Checks.dueThrow("sort -1", ARGUMENT, () -> x.buying(0, -1, 0, 0));
        Checks.dueThrow("year 41", ARGUMENT, () -> x.buying(0, 0, 41, 0));
        Checks.dueThrow("year -1", ARGUMENT, () -> x.buying(0, 0, -1, 0));
        Checks.dueThrow("what 2", ARGUMENT, () -> x.buying(0, 0, 0, 2));
        Checks.dueThrow("what -1", ARGUMENT, () -> x.buying(0, 0, 0, -1));
    }

    /** Offers of kilograms and price, and the set to be bought by one short of 100. */
    private static void set(int want, int... offers) {
        PacketLaw x = shortOf(100);
        for (int i = 0; i < offers.length; i += 2) {
            x.offer(0, offers[i], offers[i + 1]);
        }
        Checks.due("the set", want, () -> x.buying(0, 0, 0, 1));
    }

    private static void sets() {
        Checks.part("promise 34, sets");
        set(2, 200, 5, 100, 5);
        set(1, 100, 5, 100, 5);
        set(6, 101, 5, 50, 2, 50, 3);
        set(1, 100, 5, 50, 2, 50, 3);
        set(6, 200, 5, 50, 2, 50, 3);
        set(3, 50, 1, 50, 1, 50, 1, 50, 1);
        set(9, 50, 1, 60, 1, 60, 1, 50, 1);
        set(13, 40, 0, 70, 0, 30, 0, 30, 0, 30, 0, 200, 0);
        set(1, 100, 0, 1, 0);
        set(4095, 9, 1, 9, 1, 9, 1, 9, 1, 9, 1, 9, 1, 9, 1, 9, 1, 9, 1, 9, 1, 9, 1, 1, 1);
        set(2048, 9, 1, 9, 1, 9, 1, 9, 1, 9, 1, 9, 1, 9, 1, 9, 1, 9, 1, 9, 1, 9, 1, 100, 11);
    }

    private static void promise35() {
        Checks.part("promise 35");
        PacketLaw x = shortOf(100);
        Checks.due("no such set", -1, () -> x.buy(0, 0, 0));
        x.offer(0, 60, 7);
        x.offer(0, 70, 8);
        x.offer(0, 500, 100);
        x.years(2);
        Checks.due("the price", 15, () -> x.buy(0, 0, 0));
        Checks.due("evidence of all of it", 130, () -> x.owes(0, 0, 0, 2, 2));
        Checks.due("not before it was bought", 0, () -> x.owes(0, 0, 0, 1, 2));
        Checks.due("not of another year", 0, () -> x.owes(0, 0, 2, 2, 2));
        Checks.due("not of another sort", 0, () -> x.owes(0, 1, 0, 2, 2));
        Checks.due("not of another scheme", 0, () -> x.owes(1, 0, 0, 2, 2));
        Checks.due("no longer short", 0, () -> x.buy(0, 0, 0));
        Checks.due("one is left", 1, () -> x.count(9));
        x.declare(0, 0, 0, 200);
        Checks.due("short again", 100, () -> x.buy(0, 0, 0));
        Checks.due("none is left", 0, () -> x.count(9));
        x.declare(0, 0, 0, 9999);
        Checks.due("what is bought is gone", -1, () -> x.buy(0, 0, 0));
        x.declare(0, 0, 1, 5);
        x.offer(0, 5, 0);
        Checks.due("for nothing", 0, () -> x.buy(0, 0, 1));
        Checks.due("it counts", 5, () -> x.owes(0, 0, 1, 2, 2));
        Checks.dueThrow("scheme 2", INDEX, () -> x.buy(2, 9, 99));
        Checks.dueThrow("scheme -1", INDEX, () -> x.buy(-1, 0, 0));
        Checks.dueThrow("sort 5", ARGUMENT, () -> x.buy(0, 5, 0));
        Checks.dueThrow("sort -1", ARGUMENT, () -> x.buy(0, -1, 0));
        Checks.dueThrow("year 41", ARGUMENT, () -> x.buy(0, 0, 41));
        Checks.dueThrow("year -1", ARGUMENT, () -> x.buy(0, 0, -1));
    }

    private static void promise36() {
        Checks.part("promise 36");
        PacketLaw x = shortOf(100);
        Checks.due("at first", 0, () -> x.paid(0));
        x.offer(0, 100, 100000);
        x.offer(0, 100, 100000);
        x.buying(0, 0, 0, 0);
        Checks.due("buying() pays nothing", 0, () -> x.paid(0));
        x.buy(0, 0, 0);
        Checks.due("once", 100000, () -> x.paid(0));
        x.buy(0, 0, 0);
        Checks.due("not short: nothing more", 100000, () -> x.paid(0));
        x.declare(0, 0, 0, 200);
        x.buy(0, 0, 0);
        Checks.due("twice", 200000, () -> x.paid(0));
        x.declare(0, 0, 0, 300);
        x.buy(0, 0, 0);
        Checks.due("no such set: nothing more", 200000, () -> x.paid(0));
        Checks.due("another scheme", 0, () -> x.paid(1));
        Checks.dueThrow("scheme 2", INDEX, () -> x.paid(2));
        Checks.dueThrow("scheme -1", INDEX, () -> x.paid(-1));
    }

    private static void promise37() {
        Checks.part("promise 37");
        PacketLaw x = withMakers(1);
        x.years(1);
        Checks.dueThrow("maker 1", NO_SUCH, () -> x.sample(1, 9, 99, 0, 0));
        Checks.dueThrow("maker -1", NO_SUCH, () -> x.sample(-1, 0, 0, 1, 0));
        Checks.dueThrow("sort 5", ARGUMENT, () -> x.sample(0, 5, 0, 1, 0));
        Checks.dueThrow("sort -1", ARGUMENT, () -> x.sample(0, -1, 0, 1, 0));
        Checks.dueThrow("year 2", ARGUMENT, () -> x.sample(0, 0, 2, 1, 0));
        Checks.dueThrow("year -1", ARGUMENT, () -> x.sample(0, 0, -1, 1, 0));
        Checks.dueThrow("looked 0", ARGUMENT, () -> x.sample(0, 0, 0, 0, 0));
        Checks.dueThrow("looked 1001", ARGUMENT, () -> x.sample(0, 0, 0, 1001, 0));
        Checks.dueThrow("its -1", ARGUMENT, () -> x.sample(0, 0, 0, 1, -1));
        Checks.dueThrow("its above looked", ARGUMENT, () -> x.sample(0, 0, 0, 7, 8));
        Checks.due("count(10)", 0, () -> x.count(10));
        for (int i = 1; i <= 60; i++) {
            int many = i;
            Checks.due("sample", many, () -> x.sample(0, 4, 1, 1000, 1000));
        }
        Checks.due("a 61st", -1, () -> x.sample(0, 0, 0, 1, 0));
        Checks.dueThrow("a 61st that is none such", ARGUMENT, () -> x.sample(0, 0, 0, 0, 0));
        Checks.due("count(10)", 60, () -> x.count(10));
        for (int i = 0; i < 60; i++) {
            x.load(0, 20000, 0, 0, 0, 0, 0);
        }
        Checks.due("all of 60 years' loads are of another year", 1200000, () -> x.count(6) * 20000);
        // 1200000 * (60000 -+ 490) / 60000
        Checks.due("the most: from", 1190200, () -> x.span(0, 4, 1, 0));
        Checks.due("the most: to", 1209800, () -> x.span(0, 4, 1, 1));
    }

    private static void promise38() {
        Checks.part("promise 38");
        PacketLaw x = withMakers(2);
        Checks.due("without samples", -1, () -> x.span(0, 0, 0, 0));
        Checks.due("without samples", -1, () -> x.span(0, 0, 0, 1));
        x.sample(0, 0, 0, 10, 0);
        Checks.due("without loads: from", 0, () -> x.span(0, 0, 0, 0));
        Checks.due("without loads: to", 0, () -> x.span(0, 0, 0, 1));
        x.load(0, 1000, 90, 0, 0, 0, 0);
        x.load(5, 100, 99, 0, 0, 0, 0);
        // all 999; n 10, h 0, r 1
        Checks.due("none of these: from", 0, () -> x.span(0, 0, 0, 0));
        Checks.due("none of these: to 99.9", 99, () -> x.span(0, 0, 0, 1));
        x.sample(0, 0, 0, 90, 25);
        // n 100, h 25, r 11: 14 and 36 hundredths
        Checks.due("all samples together: from 139.86", 139, () -> x.span(0, 0, 0, 0));
        Checks.due("all samples together: to 359.64", 359, () -> x.span(0, 0, 0, 1));
        x.sample(0, 0, 0, 1, 1);
        // n 101, h 26, r 1 + 10: 15 and 37
        Checks.due("the root is cut: from 148.36", 148, () -> x.span(0, 0, 0, 0));
        Checks.due("the root is cut: to 365.97", 365, () -> x.span(0, 0, 0, 1));
        Checks.due("another maker", -1, () -> x.span(1, 0, 0, 0));
        Checks.due("another sort", -1, () -> x.span(0, 1, 0, 0));
        Checks.due("another year", -1, () -> x.span(0, 0, 1, 0));
        x.years(1);
        x.load(0, 1000, 90, 0, 0, 0, 0);
        Checks.due("loads of another year", 148, () -> x.span(0, 0, 0, 0));
        x.sample(1, 0, 0, 1, 1);
        // n 1, h 1, r 3
        Checks.due("one of one: from", 0, () -> x.span(1, 0, 0, 0));
        Checks.due("one of one: to four times all", 3996, () -> x.span(1, 0, 0, 1));
        Checks.dueThrow("maker 2", NO_SUCH, () -> x.span(2, 9, 99, 9));
        Checks.dueThrow("maker -1", NO_SUCH, () -> x.span(-1, 0, 0, 0));
        Checks.dueThrow("sort 5", ARGUMENT, () -> x.span(0, 5, 0, 0));
        Checks.dueThrow("sort -1", ARGUMENT, () -> x.span(0, -1, 0, 0));
        Checks.dueThrow("year 41", ARGUMENT, () -> x.span(0, 0, 41, 0));
        Checks.dueThrow("year -1", ARGUMENT, () -> x.span(0, 0, -1, 0));
        Checks.dueThrow("what 2", ARGUMENT, () -> x.span(0, 0, 0, 2));
        Checks.dueThrow("what -1", ARGUMENT, () -> x.span(0, 0, 0, -1));
    }

    private static void promise39() {
        Checks.part("promise 39");
        PacketLaw x = withMakers(2);
        x.load(0, 1000, 100, 0, 0, 0, 0);
        x.sample(0, 0, 0, 100, 25);
        // from 140
        Checks.due("nothing declared", 140, () -> x.shy(0, 0, 0));
        x.declare(0, 0, 0, 139);
        Checks.due("by one", 1, () -> x.shy(0, 0, 0));
        x.years(1);
        x.declare(0, 0, 0, 140);
        Checks.due("as known now", 0, () -> x.shy(0, 0, 0));
        x.declare(0, 0, 0, 100000);
        Checks.due("far above", 0, () -> x.shy(0, 0, 0));
        x.declare(0, 0, 0, 0);
        Checks.due("told anew", 140, () -> x.shy(0, 0, 0));
        Checks.law(x, 0, "least 500;");
        Checks.due("small or not", 140, () -> x.shy(0, 0, 0));
        Checks.due("without samples", 0, () -> x.shy(1, 0, 0));
        Checks.due("another sort", 0, () -> x.shy(0, 4, 0));
        Checks.due("another year", 0, () -> x.shy(0, 0, 1));
        Checks.dueThrow("maker 2", NO_SUCH, () -> x.shy(2, 9, 99));
        Checks.dueThrow("maker -1", NO_SUCH, () -> x.shy(-1, 0, 0));
        Checks.dueThrow("sort 5", ARGUMENT, () -> x.shy(0, 5, 0));
        Checks.dueThrow("sort -1", ARGUMENT, () -> x.shy(0, -1, 0));
        Checks.dueThrow("year 41", ARGUMENT, () -> x.shy(0, 0, 41));
        Checks.dueThrow("year -1", ARGUMENT, () -> x.shy(0, 0, -1));
    }

    private static void promise40() {
        Checks.part("promise 40");
        PacketLaw x = withMakers(3);
        Checks.due("nobody", -1, () -> x.shyest(0));
        x.load(0, 1000, 50, 50, 0, 0, 0);
        x.sample(1, 1, 0, 100, 25);
        Checks.due("maker 1 of glass, by 70", 11, () -> x.shyest(0));
        x.sample(2, 0, 0, 100, 25);
        Checks.due("as shy: the first maker", 11, () -> x.shyest(0));
        x.sample(1, 0, 0, 100, 25);
        Checks.due("as shy: then the first sort", 10, () -> x.shyest(0));
        x.declare(1, 0, 0, 1);
        Checks.due("by the most", 11, () -> x.shyest(0));
        x.declare(1, 1, 0, 2);
        Checks.due("by the most", 20, () -> x.shyest(0));
        x.declare(2, 0, 0, 500);
        Checks.due("by 69", 10, () -> x.shyest(0));
        x.declare(1, 0, 0, 70);
        x.declare(1, 1, 0, 70);
        Checks.due("nobody any more", -1, () -> x.shyest(0));
        Checks.due("another year", -1, () -> x.shyest(40));
        Checks.dueThrow("year 41", ARGUMENT, () -> x.shyest(41));
        Checks.dueThrow("year -1", ARGUMENT, () -> x.shyest(-1));
    }

    private static void promise41() {
        Checks.part("promise 41");
        PacketLaw x = withMakers(2);
        Checks.due("of alike ones the first", 0, () -> x.worth(0, 0));
        x.load(0, 1000, 20, 40, 40, 0, 0);
        Checks.due("as wide as all: glass and tin", 1, () -> x.worth(0, 0));
        x.sample(0, 1, 0, 100, 25);
        // 400 by 22 hundredths: from 56 to 144
        Checks.due("a span of 88", 2, () -> x.worth(0, 0));
        x.sample(0, 2, 0, 100, 25);
        Checks.due("paper has no span: 200", 0, () -> x.worth(0, 0));
        x.sample(0, 0, 0, 100, 25);
        Checks.due("44, 88, 88", 1, () -> x.worth(0, 0));
        x.sample(0, 0, 0, 1, 1);
        x.sample(0, 2, 0, 3, 3);
        // tin: n 103, h 28, r 11: 66 to 151
        Checks.due("44, 88, 85", 1, () -> x.worth(0, 0));
        Checks.due("another maker", 1, () -> x.worth(1, 0));
        x.sample(1, 0, 0, 1, 1);
        Checks.due("wider than all: 800", 0, () -> x.worth(1, 0));
        Checks.due("another year", 0, () -> x.worth(0, 7));
        Checks.dueThrow("maker 2", NO_SUCH, () -> x.worth(2, 41));
        Checks.dueThrow("maker -1", NO_SUCH, () -> x.worth(-1, 0));
        Checks.dueThrow("year 41", ARGUMENT, () -> x.worth(0, 41));
        Checks.dueThrow("year -1", ARGUMENT, () -> x.worth(0, -1));
    }

    private static void promise42() {
        Checks.part("promise 42");
        PacketLaw x = withSchemes(2, 3);
        x.years(4);
        x.law(0, 0);
        x.packet(0);
        x.packet(0);
        x.packet(0);
        x.declare(0, 0, 0, 0);
        x.declare(0, 0, 0, 0);
        x.declare(0, 0, 0, 0);
        x.declare(0, 0, 0, 0);
        x.declare(0, 0, 0, 0);
        x.load(0, 100, 100, 0, 0, 0, 0);
        x.load(0, 100, 100, 0, 0, 0, 0);
        for (int i = 0; i < 8; i++) {
            x.note(0, 0, 50, 0);
        }
        for (int i = 0; i < 9; i++) {
            x.offer(0, 1, 1);
        }
        x.sample(0, 0, 0, 1, 1);
        x.sample(0, 0, 0, 1, 1);
        x.feed(0, 0, 0, 0, 0);
        x.join(0, 0, 0);
        long[] want = {4, 1, 2, 3, 5, 3, 2, 8, 6, 9, 2, 20, 1};
        for (int what = 0; what < want.length; what++) {
            int w = what;
            Checks.due("count(" + w + ")", want[w], () -> x.count(w));
        }
        int[] none = {-1, 13, 100, LOWEST, HIGHEST};
        for (int what : none) {
            Checks.due("count(" + what + ")", -1, () -> x.count(what));
        }
    }
}
