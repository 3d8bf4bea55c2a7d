/** The document's terms, part 1, sentence by sentence: years, sorts, texts of laws, faults, values, what is in force. */
public final class TermsTextTest {
    private static final String[] SORTS = {"paper", "glass", "tin", "film", "mixed"};
    // the lowest and the highest number of 32 bits, as sums
    private static final String LOWEST = "(4096*8)*(8192*8)";
    private static final String HIGHEST = "((4096*8)*(8192*8)-1)";

    private TermsTextTest() {
    }

    public static void main(String[] args) {
        yearsGoBy();
        sortsByName();
        lawsFromAYear();
        fourHundredBytes();
        firstBytesAlone();
        clausesCutShort();
        clausesWithAStrangeToken();
        clausesWithoutAToken();
        numbersOfClauses();
        numbersOfSums();
        digitsAsManyAsStandThere();
        wordsAsManyAsStandThere();
        blanks();
        strangeBytes();
        sixteenClauses();
        eightOpen();
        firstFromTheLeft();
        ofOneTheLeast();
        sumsFromTheLeft();
        wrapping();
        dividing();
        lesserAndGreater();
        conditions();
        conditionsWrap();
        inForce();
        theLastOneCounts();
        oneMoreBan();
        nothingOfSpoiltTexts();
        without();
        Checks.end();
    }

    /** The text's fault, or none (kind 0): told by law(), by tried() and by fault(). */
    private static void text(String text, int kind, int place) {
        PacketLaw x = new PacketLaw();
        x.maker();
        String shown = text.length() > 60 ? text.substring(0, 60) + ".. " + text.length() : text;
        Checks.due("tried <" + shown + ">", kind == 0 ? 0 : kind - 10, () -> Checks.tried(x, 0, 0, text));
        Checks.due("its fault", place, x::fault);
        Checks.due("law <" + shown + ">", kind == 0 ? 0 : kind - 10, () -> Checks.law(x, 0, text));
        Checks.due("its fault", place, x::fault);
        Checks.due("laws", kind == 0 ? 1 : 0, () -> x.count(1));
    }

    private static void fits(String text) {
        text(text, 0, -1);
    }

    private static void yearsGoBy() {
        Checks.part("YEARS: 0 at first, 40 at most");
        PacketLaw x = new PacketLaw();
        Checks.due("at first", 0, () -> x.count(0));
        for (int i = 1; i <= 40; i++) {
            int year = i;
            Checks.due("years(1)", year, () -> x.years(1));
        }
        Checks.dueThrow("a 41st", IllegalStateException.class, () -> x.years(1));
        Checks.due("no year goes by", 40, () -> x.years(0));
        x.maker();
        Checks.due("declared of the last year, in the last year", 1, () -> x.declare(0, 4, 40, 6));
        Checks.due("known in the last year", 6, () -> x.declared(0, 4, 40, 40));
        Checks.due("not known in the year before", 0, () -> x.declared(0, 4, 40, 39));
        Checks.due("a load of the last year", 40, () -> x.out(x.load(0, 1, 0, 0, 0, 0, 0), 6));
        PacketLaw y = new PacketLaw();
        y.years(39);
        Checks.dueThrow("39 and 2", IllegalStateException.class, () -> y.years(2));
        Checks.due("39 and 1", 40, () -> y.years(1));
    }

    private static void sortsByName() {
        Checks.part("SORTS: 0 paper, 1 glass, 2 tin, 3 film, 4 mixed");
        for (int i = 0; i < 5; i++) {
            PacketLaw x = new PacketLaw();
            x.maker();
            x.packet(0);
            x.make(0, i == 0 ? 1 : 0, i == 1 ? 1 : 0, i == 2 ? 1 : 0, i == 3 ? 1 : 0, i == 4 ? 1 : 0, 0);
            String s = SORTS[i];
            Checks.law(x, 0, "target " + s + " 11;off " + s + " 22;towns " + s + " 33;fee " + s + "=44;ban " + s + ";");
            for (int j = 0; j < 5; j++) {
                int sort = j;
                boolean own = i == j;
                Checks.due(s + ": target of " + j, own ? 11 : 0, () -> x.tells(0, sort, 0));
                Checks.due(s + ": off of " + j, own ? 22 : 100, () -> x.tells(0, sort, 1));
                Checks.due(s + ": towns of " + j, own ? 33 : 0, () -> x.tells(0, sort, 2));
                Checks.due(s + ": fee of " + j, own ? 3 : -1, () -> x.why(0, sort));
            }
            Checks.dueTruth(s + ": ban", true, () -> x.banned(0, 0, 0));
            PacketLaw y = new PacketLaw();
            y.maker();
            y.packet(0);
            y.make(0, i == 0 ? 0 : 1, i == 1 ? 0 : 1, i == 2 ? 0 : 1, i == 3 ? 0 : 1, i == 4 ? 0 : 1, 0);
            Checks.law(y, 0, "ban " + s + ";");
            Checks.dueTruth(s + ": no ban without grams of it", false, () -> y.banned(0, 0, 0));
        }
    }

    private static void lawsFromAYear() {
        Checks.part("each from a YEAR on");
        PacketLaw x = new PacketLaw();
        Checks.due("from the first year", 0, () -> Checks.law(x, 0, "least 3;"));
        Checks.due("from the last year", 1, () -> Checks.law(x, 40, "least 4;"));
        Checks.due("in 0", 3, () -> x.tells(0, 0, 3));
        Checks.due("in 39", 3, () -> x.tells(39, 0, 3));
        Checks.due("in 40", 4, () -> x.tells(40, 0, 3));
        Checks.put(x, "least 5;");
        Checks.dueThrow("from -1", IllegalArgumentException.class, () -> x.law(-1, 8));
        Checks.dueThrow("from 41", IllegalArgumentException.class, () -> x.law(41, 8));
        Checks.due("the tape is kept", 20, () -> x.count(11));
        Checks.due("what it holds is kept", 2, () -> x.law(0, 8));
        Checks.due("told", 5, () -> x.tells(0, 0, 3));
    }

    private static void fourHundredBytes() {
        Checks.part("texts of up to 400 bytes");
        String longest = Checks.times(" ", 392) + "least 7;";
        PacketLaw x = new PacketLaw();
        Checks.put(x, longest);
        Checks.due("on the tape", 400, () -> x.count(11));
        Checks.due("one feed more", -1, () -> x.feed(-1, -1, -1, -1, -1));
        Checks.due("does nothing", 400, () -> x.count(11));
        Checks.dueThrow("401 bytes", IllegalArgumentException.class, () -> x.law(0, 401));
        Checks.due("all 400", 0, () -> x.law(0, 400));
        Checks.due("it is read to its last byte", 7, () -> x.tells(0, 0, 3));
        Checks.put(x, longest);
        Checks.due("399 of them end too early", -9, () -> x.law(0, 399));
        Checks.due("at the length", 399, x::fault);
        fits("fee tin=9" + Checks.times("*9", 195) + ";");
        text(Checks.times("least 1;", 16) + Checks.times(" ", 271) + "x", 1, 399);
        text("fee tin=1" + Checks.times("+2", 195) + "+", 1, 400);
        String zeros = "least " + Checks.times("0", 389) + "1234;";
        Checks.due("its length", 400, zeros::length);
        Checks.law(x, 0, zeros);
        Checks.due("389 zeros ahead", 1234, () -> x.tells(0, 0, 3));
        text("least " + Checks.times("9", 394), 2, 6);
        text(Checks.times("a", 400), 1, 0);
    }

    private static void firstBytesAlone() {
        Checks.part("the first n bytes of the TAPE (empty then)");
        PacketLaw x = new PacketLaw();
        Checks.put(x, "least 5;least 6;????");
        Checks.due("the first 8", 0, () -> x.law(0, 8));
        Checks.due("told", 5, () -> x.tells(0, 0, 3));
        Checks.due("the tape is empty", 0, () -> x.count(11));
        Checks.dueThrow("one byte of none", IllegalArgumentException.class, () -> x.law(0, 1));
        Checks.due("none of none", 1, () -> x.law(0, 0));
        Checks.put(x, "least 5;least 6;????");
        Checks.due("up to the first strange one", 2, () -> x.law(0, 16));
        Checks.due("told", 6, () -> x.tells(0, 0, 3));
        Checks.put(x, "least 5;least 6;????");
        Checks.due("with a strange one", -9, () -> x.law(0, 17));
        Checks.due("its place", 16, x::fault);
        Checks.put(x, "least 8;");
        Checks.due("0 of 20 bytes", 3, () -> x.law(0, 0));
        Checks.due("the tape is empty", 0, () -> x.count(11));
        Checks.due("nothing of them is told", 6, () -> x.tells(0, 0, 3));
        Checks.put(x, "least 9;");
        Checks.due("what comes then starts at the front", 4, () -> x.law(0, 8));
        Checks.due("told", 9, () -> x.tells(0, 0, 3));
    }

    private static final String[] CLAUSES = {
        "fee paper = 1 ;", "fee glass = year + kilos - share * grams / layers ;", "fee tin = ( 1 ) ;", "fee film = min ( 1 , 2 ) ;",
        "fee mixed = max ( min ( 1 , 2 ) , ( 3 - 4 ) ) * 5 ;", "target paper 100 ;", "off glass 0 ;", "towns tin 9999 ;", "least 1 ;",
        "trips 50 ;", "orphans makers ;", "orphans schemes ;", "ban mixed ;", "ban film if 1 < 2 ;", "ban tin if not 1 > 2 ;",
        "ban glass if [ 1 = 2 ] ;", "ban paper if not [ grams + 1 < 2 or not layers = 3 and ( 4 ) > 5 ] ;", "ban tin if ( 1 ) * 2 = min ( 3 , 4 ) ;"
    };

    private static void clausesCutShort() {
        Checks.part("FAULTS: 1 at the length, if the text ends too early");
        for (String clause : CLAUSES) {
            fits(clause);
            for (int at = 1; at < clause.length(); at++) {
                if (clause.charAt(at) == ' ') {
                    text(clause.substring(0, at), 1, at);
                    text(clause.substring(0, at) + "   ", 1, at + 3);
                    text("least 9;" + clause.substring(0, at), 1, at + 8);
                }
            }
        }
    }

    private static void clausesWithAStrangeToken() {
        Checks.part("FAULTS: 1 what can't stand there, at its first byte");
        for (String clause : CLAUSES) {
            int start = 0;
            for (String token : clause.split(" ")) {
                String ahead = clause.substring(0, start);
                String behind = clause.substring(start + token.length());
                for (String strange : new String[] {"?", "wood", token + "!", "A"}) {
                    int place = strange.endsWith("!") ? start + token.length() : start;
                    text(ahead + strange + behind, 1, place);
                }
                start += token.length() + 1;
            }
        }
    }

    private static void clausesWithoutAToken() {
        Checks.part("FAULTS: 1, the next one stands where it can't");
        text("paper = 1 ;", 1, 0);
        text("fee = 1 ;", 1, 4);
        text("fee paper 1 ;", 1, 10);
        text("fee paper = ;", 1, 12);
        text("fee paper = 1 least 1 ;", 1, 14);
        text("fee paper = min 1 , 2 ) ;", 1, 16);
        text("fee paper = min ( , 2 ) ;", 1, 18);
        text("fee paper = min ( 1 2 ) ;", 1, 20);
        text("fee paper = min ( 1 , ) ;", 1, 22);
        text("fee paper = min ( 1 , 2 ;", 1, 24);
        text("fee paper = ( ) ;", 1, 14);
        text("fee paper = ( 1 ;", 1, 16);
        text("fee paper = ( 1 ] ;", 1, 16);
        text("fee paper = min ( 1 , 2 ] ;", 1, 24);
        text("fee paper = min [ 1 , 2 ) ;", 1, 16);
        text("fee paper = - 1 ;", 1, 12);
        text("fee paper = + 1 ;", 1, 12);
        text("fee paper = 2 * - 1 ;", 1, 16);
        text("fee paper = ( - 1 ) ;", 1, 14);
        text("fee paper = min ( - 1 , 2 ) ;", 1, 18);
        text("fee paper = * 1 ;", 1, 12);
        text("fee paper = 1 - - 1 ;", 1, 16);
        text("fee paper = 1 ) ;", 1, 14);
        text("target 1 ;", 1, 7);
        text("target paper ;", 1, 13);
        text("off 1 ;", 1, 4);
        text("off paper ;", 1, 10);
        text("towns 1 ;", 1, 6);
        text("towns paper ;", 1, 12);
        text("ban if 1 < 2 ;", 1, 4);
        text("ban paper 1 < 2 ;", 1, 10);
        text("ban paper if ;", 1, 13);
        text("ban paper if < 2 ;", 1, 13);
        text("ban paper if 1 2 ;", 1, 15);
        text("ban paper if 1 < ;", 1, 17);
        text("ban paper if 1 < 2 or ;", 1, 22);
        text("ban paper if 1 < 2 and ;", 1, 23);
        text("ban paper if not ;", 1, 17);
        text("ban paper if [ ] ;", 1, 15);
        text("ban paper if 1 < 2 ] ;", 1, 19);
        text("ban paper if [ 1 < 2 ;", 1, 21);
        text("ban paper if [ 1 < 2 ) ;", 1, 21);
        text("ban paper if - 1 < 2 ;", 1, 13);
        text("ban paper if 1 < - 2 ;", 1, 17);
        text("ban paper if 1 < = 2 ;", 1, 17);
        text("ban paper if ( 1 < 2 ) ;", 1, 17);
        text("ban paper if not not or 1 < 2 ;", 1, 21);
        text("least ;", 1, 6);
        text("trips ;", 1, 6);
        text("orphans ;", 1, 8);
        text("makers ;", 1, 0);
        text("; least 1 ;", 1, 0);
        text("least 1 ; ; least 1 ;", 1, 10);
    }

    private static String at(String clause, String number) {
        return clause.replace("#", number);
    }

    /** One clause with a number: the least and the greatest, and those just outside. */
    private static void number(String clause, int what, int least, int most) {
        int place = clause.indexOf('#');
        for (int n : new int[] {least, least + 1, most - 1, most}) {
            PacketLaw x = new PacketLaw();
            Checks.due("law of " + at(clause, "" + n), 0, () -> Checks.law(x, 0, at(clause, "" + n)));
            Checks.due("told", n, () -> x.tells(0, 4, what));
        }
        text(at(clause, "" + (most + 1)), 2, place);
        if (least > 0) {
            text(at(clause, "" + (least - 1)), 2, place);
            text(at(clause, "0000" + (least - 1)), 2, place);
        }
        text(at(clause, "000" + most), 0, -1);
        text(at(clause, "000" + (most + 1)), 2, place);
        text(at(clause, "-1"), 1, place);
        text(at(clause, "+1"), 1, place);
        text(at(clause, "(1)"), 1, place);
        text(at(clause, "year"), 1, place);
        // numbers that would wrap into what is allowed
        for (String wraps : new String[] {"65537", "4294967297", "4294967298", "18446744073709551617", "340282366920938463463374607431768211457"}) {
            text(at(clause, wraps), 2, place);
        }
        for (int ten = 10 * (most + 1); ten <= 1000000; ten *= 10) {
            text(at(clause, "" + ten), 2, place);
        }
    }

    private static void numbersOfClauses() {
        Checks.part("N: 0 to 9,999 (of target and off 0 to 100, of trips 1 to 50)");
        number("target mixed #;", 0, 0, 100);
        number("off mixed #;", 1, 0, 100);
        number("towns mixed #;", 2, 0, 9999);
        number("least #;", 3, 0, 9999);
        number("trips #;", 4, 1, 50);
        number("  least 1 ;  trips   #  ;", 4, 1, 50);
    }

    private static void numbersOfSums() {
        Checks.part("U: N (0 to 9,999)");
        String[] places = {"fee tin=#;", "fee tin=1+#;", "fee tin=1-#;", "fee tin=2*#;", "fee tin=2/#;", "fee tin=(#);", "fee tin=min(#,1);",
            "fee tin=max(1,#);", "ban tin if #<1;", "ban tin if 1>#;", "ban tin if not #=1;", "ban tin if [1=#];", "ban tin if 1=1 or 2=#;"};
        for (String clause : places) {
            int place = clause.indexOf('#');
            fits(at(clause, "0"));
            fits(at(clause, "9999"));
            fits(at(clause, "00009999"));
            text(at(clause, "10000"), 2, place);
            text(at(clause, "00010000"), 2, place);
            text(at(clause, "4294967296"), 2, place);
            text(at(clause, "99999999999999999999"), 2, place);
        }
        value("0", 0);
        value("9999", 9999);
    }

    private static void digitsAsManyAsStandThere() {
        Checks.part("N: digits, as many as stand there");
        text("least 12 34;", 1, 9);
        text("least 1234 5;", 1, 11);
        text("least 12,34;", 1, 8);
        text("least 1a;", 1, 7);
        text("least 1.5;", 1, 7);
        text("fee tin=12 34;", 1, 11);
        text("trips 5 0;", 1, 8);
        PacketLaw x = new PacketLaw();
        Checks.law(x, 0, "least 0000000000000000042;trips 050;target tin 0100;");
        Checks.due("least", 42, () -> x.tells(0, 2, 3));
        Checks.due("trips", 50, () -> x.tells(0, 2, 4));
        Checks.due("target", 100, () -> x.tells(0, 2, 0));
        value("0000000000000000000000000000000007", 7);
        value("1234+0001", 1235);
        for (int digit = 0; digit < 10; digit++) {
            value("" + digit, digit);
        }
    }

    private static void wordsAsManyAsStandThere() {
        Checks.part("WORDS: small letters, as many as stand there");
        text("leastleast 1;", 1, 0);
        text("leas t 1;", 1, 0);
        text("leastz 1;", 1, 0);
        text("leasta 1;", 1, 0);
        text("zleast 1;", 1, 0);
        text("aleast 1;", 1, 0);
        text("fee tinz=1;", 1, 4);
        text("l east 1;", 1, 0);
        text("feepaper=1;", 1, 0);
        text("fee papers=1;", 1, 4);
        text("fee pape=1;", 1, 4);
        text("fee pap er=1;", 1, 4);
        text("fee tintin=1;", 1, 4);
        text("banpaper;", 1, 0);
        text("ban paperif 1<2;", 1, 4);
        text("ban paper ifnot 1<2;", 1, 10);
        text("ban paper if not1<2;", 0, -1);
        text("ban paper if notyear<2;", 1, 13);
        text("ban paper if1<2;", 0, -1);
        text("ban paper if 1<2or 1<2;", 0, -1);
        text("ban paper if 1<2or1<2and1<2;", 0, -1);
        text("ban paper if 1<2 oryear<2;", 1, 17);
        text("ban paper if 1<yearor 1<2;", 1, 15);
        text("ban paper if year<2andnot 1<2;", 1, 19);
        text("orphans makersschemes;", 1, 8);
        text("orphansmakers;", 1, 0);
        text("fee tin=minmax(1,2);", 1, 8);
        text("fee tin=mi(1,2);", 1, 8);
        text("fee tin=kilo;", 1, 8);
        text("fee tin=year kilos;", 1, 13);
        text("fee tin=yearkilos;", 1, 8);
        text("fee tin=Year;", 1, 8);
        text("fee tin=yEar;", 1, 8);
        text("fEe tin=1;", 1, 0);
        text("fee tin=1;LEAST 1;", 1, 10);
        text("least", 1, 5);
        text("leas", 1, 0);
        text("least 1;leas", 1, 8);
        text("fee tin=1+yea", 1, 10);
        text("ban tin i", 1, 8);
        // each word of the terms where it can't stand
        String[] words = {"year", "kilos", "share", "grams", "layers", "makers", "schemes", "if", "or", "and", "not", "min", "max", "paper", "mixed"};
        for (String word : words) {
            text(word + " tin 1;", 1, 0);
            text("least 1;" + word, 1, 8);
        }
        for (String word : new String[] {"year", "if", "fee", "least", "orphans", "not", "min"}) {
            text("target " + word + " 1;", 1, 7);
            text("orphans " + word + ";", 1, 8);
        }
        for (String word : new String[] {"paper", "if", "fee", "or", "and", "not", "makers"}) {
            text("fee tin=" + word + ";", 1, 8);
            text("fee tin=1*" + word + ";", 1, 10);
        }
    }

    private static void blanks() {
        Checks.part("blanks may stand ahead of all these, and at the end");
        fits(" ");
        fits(Checks.times(" ", 400));
        fits("   fee   tin   =   (   1   +   min   (   2   ,   3   )   *   4   -   year   )   /   5   ;   ");
        fits("  ban  tin  if  not  [  1  <  2  or  3  >  4  and  5  =  6  ]  ;  off  tin  7  ;  orphans  makers  ;  ");
        fits("fee tin=1;");
        fits("fee tin=(1+min(2,3)*4-year)/5;ban tin if not[1<2or 3>4and 5=6];off tin 7;orphans makers;");
        text("fee tin\t=1;", 1, 7);
        text("fee tin\n=1;", 1, 7);
        text("\r", 1, 0);
        text("least 1;\u00a0", 1, 8);
        text("  ?", 1, 2);
        text("least   10000;", 2, 8);
        PacketLaw x = new PacketLaw();
        x.maker();
        x.declare(0, 2, 0, 1000);
        Checks.law(x, 0, "  fee   tin   =   (  9  +  1  )  *  2  ;  ");
        Checks.due("read as without them", 20, () -> x.fee(0, 0, 0));
    }

    private static void strangeBytes() {
        Checks.part("FAULTS: 1, every byte that is none of a text's");
        String signs = ";=+-*/(),[]<> ";
        for (int i = 0; i < 256; i++) {
            char sign = (char) i;
            boolean known = signs.indexOf(sign) >= 0 || sign >= 'a' && sign <= 'z' || sign >= '0' && sign <= '9';
            if (!known) {
                PacketLaw x = new PacketLaw();
                Checks.due("byte " + i + " ahead", -9, () -> Checks.law(x, 0, sign + "least 1;"));
                Checks.due("byte " + i + " behind", -9, () -> Checks.law(x, 0, "least 1;" + sign));
                Checks.due("its place", 8, x::fault);
                Checks.due("byte " + i + " in between", -9, () -> Checks.law(x, 0, "fee tin=1" + sign + "+2;"));
                Checks.due("its place", 9, x::fault);
                Checks.due("byte " + i + " within a word", -9, () -> Checks.law(x, 0, "fee t" + sign + "in=1;"));
                Checks.due("the word's place", 4, x::fault);
                Checks.due("byte " + i + " right behind a word", -9, () -> Checks.law(x, 0, "fee tin" + sign + "=1;"));
                Checks.due("its own place", 7, x::fault);
            }
        }
        for (char sign : signs.toCharArray()) {
            if (sign != ' ') {
                text(String.valueOf(sign), 1, 0);
                text("least 1;" + sign, 1, 8);
            }
        }
    }

    private static void sixteenClauses() {
        Checks.part("at most 16 CLAUSES; FAULTS: 3 a 17th");
        String[] kinds = {"fee tin=1;", "target tin 1;", "off tin 1;", "towns tin 1;", "ban tin;", "ban tin if 1<2;", "least 1;", "trips 1;", "orphans makers;"};
        for (String kind : kinds) {
            String some = Checks.times("least 1;", 15);
            fits(some + kind);
            text(some + "least 1;" + kind, 3, 128);
            text(some + "least 1;   " + kind, 3, 131);
            text(some + "least 1;" + kind.substring(0, 3), kind.startsWith("fee") || kind.startsWith("off") || kind.startsWith("ban") ? 3 : 1, 128);
        }
        PacketLaw x = new PacketLaw();
        x.maker();
        x.declare(0, 3, 0, 1000);
        Checks.law(x, 0, Checks.times("fee tin=1;", 15) + "fee film=77;");
        Checks.due("the 16th is one", 15, () -> x.why(0, 3));
        Checks.due("and counts", 77, () -> x.fee(0, 0, 0));
        Checks.due("16 more in the next law", 1, () -> Checks.law(x, 0, Checks.times("fee film=1;", 15) + "fee film=78;"));
        Checks.due("the 32nd", 115, () -> x.why(0, 3));
        Checks.due("counts", 78, () -> x.fee(0, 0, 0));
        Checks.due("a 17th", -7, () -> Checks.law(x, 0, Checks.times("fee film=3;", 17)));
        Checks.due("its place", 176, x::fault);
        Checks.due("is no law", 78, () -> x.fee(0, 0, 0));
    }

    private static void eightOpen() {
        Checks.part("FAULTS: 3 a 9th of ( [ and not that is open at one time");
        String eight = "ban tin if not [ not [ not [ ( ( 1 ) ) < 2 ] ] ] ;";
        fits(eight);
        text(eight.replace("( 1 )", "( ( 1 ) )"), 3, 33);
        fits(eight.replace("( ( 1 ) )", "max ( ( 1 ) , 2 )"));
        text(eight.replace("( ( 1 ) )", "max ( min ( ( 1 ) , 2 ) , 2 )"), 3, 41);
        text(eight.replace("( ( 1 ) )", "max ( ( 1 ) , min ( ( 3 ) , 4 ) )"), 3, 49);
        text(eight.replace("( ( 1 ) )", "( ( 1 ) + ( ( 2 ) ) )"), 3, 41);
        fits(eight.replace("( ( 1 ) )", "( ( 1 ) + ( 2 ) ) * ( ( 3 ) )"));
        // on the right of each sign as well
        for (String sign : new String[] {"+", "-", "*", "/", "+2*", "*2-"}) {
            fits("fee tin=1" + sign + "((((((((2))))))));");
            text("fee tin=1" + sign + "(((((((((2)))))))));", 3, 17 + sign.length());
            text("fee tin=((1" + sign + "(((((((2)))))))));", 3, 17 + sign.length());
            text("ban tin if not 1" + sign + "((((((((2))))))))<3;", 3, 23 + sign.length());
            text("ban tin if not 3>1" + sign + "((((((((2))))))));", 3, 25 + sign.length());
        }
        // what is closed is open no longer: many more than eight, one behind the other
        fits("fee tin=" + Checks.times("(1)+", 20) + "(2);");
        fits("fee tin=" + Checks.times("min(1,2)*", 12) + "max(1,2);");
        fits("ban tin if " + Checks.times("[1<2]or ", 12) + "[1<2];");
        fits("ban tin if " + Checks.times("not 1<2 or ", 12) + "not 1<2;");
        fits("ban tin if " + Checks.times("not not not not not not not not 1<2 and ", 6) + "[[[[[[[[1<2]]]]]]]];");
        fits("ban tin if " + Checks.times("[", 7) + "not 1<2 or not 1<2 and not 1<2" + Checks.times("]", 7) + ";");
        text("ban tin if " + Checks.times("[", 7) + "not 1<2 or not (1)<2" + Checks.times("]", 7) + ";", 3, 33);
        fits("ban tin if " + Checks.times("[", 7) + "not 1<2 or (1)<2" + Checks.times("]", 7) + ";");
        fits("ban tin if not 1<2 and [[[[[[[(1)<2]]]]]]];");
        text("ban tin if not [1<2 and [[[[[[[1<2]]]]]]]];", 3, 30);
        // a not is open to the end of its B, on the right of the sign too
        text("ban tin if " + Checks.times("not ", 8) + "1<2+(3);", 3, 47);
        fits("ban tin if " + Checks.times("not ", 7) + "1<2+(3);");
        fits("ban tin if " + Checks.times("not ", 8) + "1<2 or (3)<4;");
        // closed ones of one clause are not open in the next
        fits("ban tin if " + Checks.times("not ", 8) + "1<2;ban tin if " + Checks.times("not ", 8) + "1<2;");
        for (int nots = 0; nots <= 8; nots++) {
            String open = Checks.times("not ", nots) + Checks.times("[", 8 - nots);
            String close = Checks.times("]", 8 - nots) + ";";
            fits("ban tin if " + open + "1<2" + close);
            text("ban tin if " + open + "(1)<2" + close, 3, 11 + open.length());
            text("ban tin if " + open + "[1<2]" + close, 3, 11 + open.length());
            text("ban tin if " + open + "not 1<2" + close, 3, 11 + open.length());
            text("ban tin if " + open + "min(1,2)<2" + close, 3, 14 + open.length());
            text("ban tin if " + open + "1<(2)" + close, 3, 13 + open.length());
        }
    }

    private static void firstFromTheLeft() {
        Checks.part("FAULTS, the first from the left");
        text("least 10000;least x;", 2, 6);
        text("least x;least 10000;", 1, 6);
        text("trips 0 trips 0;", 2, 6);
        text("fee tin=10000+(((((((((1;", 2, 8);
        text("fee tin=(((((((((10000;", 3, 16);
        text("fee tin=((((((((10000;", 2, 16);
        text("fee tin=((((((((1?;", 1, 17);
        text(Checks.times("least 1;", 16) + "least 10000;", 3, 128);
        text(Checks.times("least 1;", 15) + "least 10000;least 1;", 2, 126);
        text(Checks.times("least 1;", 15) + "least ?;least 1;", 1, 126);
        text("? 10000", 1, 0);
        text("target wood 101;", 1, 7);
        text("target tin 101", 2, 11);
        text("least 1;fee tin=99999;?", 2, 16);
    }

    private static void ofOneTheLeast() {
        Checks.part("FAULTS, of one the least");
        String full = Checks.times("least 1;", 16);
        text(full + "10000", 1, 128);
        text(full + "wood", 1, 128);
        text(full + "(", 1, 128);
        text(full + "paper 1;", 1, 128);
        // a number that is none such where none can stand
        text("10000;", 1, 0);
        text("fee 10000;", 1, 4);
        text("orphans 10000;", 1, 8);
        text("least 5 10000;", 1, 8);
        text("fee tin=1 10000;", 1, 10);
        // a ninth one where it can't stand
        text("fee tin=((((((((1(", 1, 17);
        text("fee tin=((((((((1+[", 1, 18);
        text("fee tin=((((((((not", 1, 16);
        text("ban tin if " + Checks.times("not ", 8) + "1<[2];", 1, 45);
        text("ban tin if " + Checks.times("not ", 8) + "1<not 2;", 1, 45);
        text("ban tin if " + Checks.times("[", 8) + "1<2[1<2]", 1, 22);
        text("ban tin if " + Checks.times("[", 8) + "1(2)<2", 1, 20);
        text("fee tin=((((((((min[", 1, 19);
    }

    /** A thousand kilograms of tin declared: the fee is the value, from 0 to 100,000. */
    private static void value(String sum, long want) {
        PacketLaw x = new PacketLaw();
        x.maker();
        x.declare(0, 2, 0, 1000);
        Checks.due("tried fee tin=" + sum, want, () -> Checks.tried(x, 0, 0, "fee tin=" + sum + ";"));
        Checks.due("law of it", 0, () -> Checks.law(x, 0, "fee tin=" + sum + ";"));
        Checks.due("value of " + sum, want, () -> x.fee(0, 0, 0));
    }

    private static void sumsFromTheLeft() {
        Checks.part("E: T { + or - T }; T: U { * or / U }");
        value("9-3-2", 4);
        value("9-3+2", 8);
        value("9-(3+2)", 4);
        value("100/10/5", 2);
        value("100/10*5", 50);
        value("100/(10*5)", 2);
        value("7*3/2", 10);
        value("7/2*3", 9);
        value("2+3*4-5", 9);
        value("(2+3)*(4-1)", 15);
        value("20-12/4*2+1", 15);
        value("((((((((8))))))))", 8);
    }

    private static void wrapping() {
        Checks.part("VALUES are whole numbers of 32 bits that wrap");
        value(HIGHEST, 100000);
        value(LOWEST, 0);
        value(HIGHEST + "+1", 0);
        value(LOWEST + "-1", 100000);
        value(HIGHEST + "+" + HIGHEST + "+2+5", 5);
        value(LOWEST + "+" + LOWEST + "+5", 5);
        value("(8192*8)*(8192*8)+6", 6);
        value(HIGHEST + "*2+9", 7);
        value(HIGHEST + "*" + HIGHEST, 1);
        value("(0-1)*" + LOWEST, 0);
        value("0-" + LOWEST, 0);
        value("0-" + LOWEST + "-1-" + HIGHEST + "+3", 3);
        // 9999 * 9999 * 9999 is 999,700,029,999; less 232 times 2^32 it is 3,267,617,327, less 2^32 again below 0
        value("9999*9999*9999", 0);
        value("9999*9999*9999/(0-9999)", 100000);
        value("9999*9999*9999/(0-9999)/100", 1027);
        // kilos * kilos, of 10,000,000: less 23283 times 2^32 it is 276,447,232
        PacketLaw x = new PacketLaw();
        x.maker();
        x.declare(0, 2, 0, 10000000);
        Checks.due("the fee itself has 64 bits", 276440000, () -> Checks.tried(x, 0, 0, "fee tin=kilos*kilos/1000/10;"));
        Checks.due("the greatest fee of a sort", 1000000000L, () -> Checks.tried(x, 0, 0, "fee tin=kilos;"));
    }

    private static void dividing() {
        Checks.part("/ cuts, by 0 it is 0");
        value("7/8", 0);
        value("8/8", 1);
        value("15/8", 1);
        value("16/8", 2);
        value("9999/1", 9999);
        // towards 0, not down
        value("5+(0-7)/2", 2);
        value("5+7/(0-2)", 2);
        value("5+(0-7)/(0-2)", 8);
        value("5+(0-1)/2", 5);
        value("5/0", 0);
        value("0/0", 0);
        value("4+5/0", 4);
        value("4+5/0*3", 4);
        value("4+(0-5)/0", 4);
        value("4+" + LOWEST + "/0", 4);
        value("4+" + HIGHEST + "/0", 4);
        value("4+5/(7-7)", 4);
        value("4+5/(kilos-1000)", 4);
        value("4+5/year", 4);
        value("4+5/grams", 4);
        value("4+5/layers", 4);
        // the lowest number by -1 is itself
        value(LOWEST + "/(0-1)", 0);
        value(LOWEST + "/(0-1)-1", 100000);
        value("3+(" + LOWEST + "/(0-1)-" + LOWEST + ")", 3);
        value("3+0/5", 3);
    }

    private static void lesserAndGreater() {
        Checks.part("min and max (E , E)");
        value("min(3,4)", 3);
        value("min(4,3)", 3);
        value("max(3,4)", 4);
        value("max(4,3)", 4);
        value("min(5,5)+max(6,6)", 11);
        value("min(0-5,3)+9", 4);
        value("max(0-5,0-3)+9", 6);
        value("max(" + LOWEST + "," + "7)", 7);
        value("min(" + HIGHEST + ",7)", 7);
        value("min(" + LOWEST + "," + HIGHEST + ")", 0);
        value("min(1+1,9-1)*2", 4);
        value("2*max(1,min(5,3))+1", 7);
    }

    /** A make of 30 grams of tin and 2 of film, in year 6. */
    private static void condition(String condition, boolean want) {
        PacketLaw x = new PacketLaw();
        x.maker();
        x.packet(0);
        x.make(0, 0, 0, 30, 2, 0, 1);
        x.sold(0, 6, 100, 0, 1);
        x.years(6);
        x.declare(0, 2, 6, 5000);
        Checks.due("law of " + condition, 0, () -> Checks.law(x, 0, "ban tin if " + condition + ";"));
        Checks.dueTruth(condition, want, () -> x.banned(0, 0, 6));
    }

    private static void conditions() {
        Checks.part("C: A { or A }; A: B { and B }; B: not B, [ C ], E R E; R: <, > or =");
        String[] truths = {"1=2", "1=1"};
        boolean[] is = {false, true};
        for (int a = 0; a < 2; a++) {
            condition(truths[a], is[a]);
            condition("not " + truths[a], !is[a]);
            condition("not not " + truths[a], is[a]);
            condition("[" + truths[a] + "]", is[a]);
            for (int b = 0; b < 2; b++) {
                condition(truths[a] + " or " + truths[b], is[a] || is[b]);
                condition(truths[a] + " and " + truths[b], is[a] && is[b]);
                condition("not " + truths[a] + " or " + truths[b], !is[a] || is[b]);
                condition("not " + truths[a] + " and " + truths[b], !is[a] && is[b]);
                condition("not [" + truths[a] + " or " + truths[b] + "]", !(is[a] || is[b]));
                for (int c = 0; c < 2; c++) {
                    String three = " " + truths[c];
                    condition(truths[a] + " or " + truths[b] + " and" + three, is[a] || is[b] && is[c]);
                    condition(truths[a] + " and " + truths[b] + " or" + three, is[a] && is[b] || is[c]);
                    condition("[" + truths[a] + " or " + truths[b] + "] and" + three, (is[a] || is[b]) && is[c]);
                    condition(truths[a] + " and [" + truths[b] + " or" + three + "]", is[a] && (is[b] || is[c]));
                }
            }
        }
        for (int a = 4; a <= 6; a++) {
            condition(a + "<5", a < 5);
            condition(a + ">5", a > 5);
            condition(a + "=5", a == 5);
        }
        condition("grams=30 and layers=2 and year=6 and kilos=0 and share=0", true);
        condition("grams<30 or grams>30 or layers<2 or layers>2", false);
        condition("2+3*4=14 and 20-5-3=12", true);
        condition("(1)+1<(2)*2", true);
    }

    private static void conditionsWrap() {
        Checks.part("VALUES in a condition: wrapping, below 0, by 0");
        condition(LOWEST + "<0", true);
        condition(HIGHEST + ">0", true);
        condition(HIGHEST + "+1=" + LOWEST, true);
        condition(LOWEST + "<" + HIGHEST, true);
        condition(LOWEST + ">" + HIGHEST, false);
        condition(HIGHEST + ">" + LOWEST, true);
        condition("0-1<0", true);
        condition("0-1>0-2", true);
        condition("grams/0=0", true);
        condition("1/kilos=0", true);
        condition("1/share=0", true);
        condition("(0-7)/2=0-3", true);
        condition(LOWEST + "/(0-1)=" + LOWEST, true);
        condition("8192*8*8192*8=0", true);
    }

    private static void inForce() {
        Checks.part("IN FORCE in a YEAR are the LAWS from that YEAR, or an earlier one");
        PacketLaw x = new PacketLaw();
        x.maker();
        x.packet(0);
        x.make(0, 10, 0, 0, 0, 0, 0);
        for (int year = 0; year <= 40; year += 20) {
            x.sold(0, year, 100, 50, 4);
        }
        Checks.law(x, 20, "target paper 7;off paper 60;towns paper 8;least 9;trips 2;orphans schemes;fee paper=3;ban paper;");
        x.years(20);
        x.declare(0, 0, 19, 1000);
        x.declare(0, 0, 20, 1000);
        int[] told = {7, 60, 8, 9, 2, 1};
        int[] untold = {0, 100, 0, 0, 1, 0};
        for (int what = 0; what < 6; what++) {
            int w = what;
            Checks.due("what " + w + " in 19", untold[w], () -> x.tells(19, 0, w));
            Checks.due("what " + w + " in 20", told[w], () -> x.tells(20, 0, w));
            Checks.due("what " + w + " in 21", told[w], () -> x.tells(21, 0, w));
            Checks.due("what " + w + " in 40", told[w], () -> x.tells(40, 0, w));
        }
        Checks.due("why in 19", -1, () -> x.why(19, 0));
        Checks.due("why in 20", 6, () -> x.why(20, 0));
        Checks.due("fee in 19", 100, () -> x.fee(0, 19, 20));
        Checks.due("fee in 20", 3, () -> x.fee(0, 20, 20));
        Checks.dueTruth("small in 19", false, () -> x.small(0, 19, 0));
        Checks.dueTruth("small in 20", true, () -> x.small(0, 20, 0));
        Checks.dueTruth("banned in 19", false, () -> x.banned(0, 0, 19));
        Checks.dueTruth("banned in 20", true, () -> x.banned(0, 0, 20));
        Checks.due("kilos in 0: off 100, by 1", 500, () -> x.kilos(0, 0, 0));
        Checks.due("kilos in 20: off 60, by 2", 350, () -> x.kilos(0, 0, 20));
        Checks.due("kilos in 40", 350, () -> x.kilos(0, 0, 40));
    }

    private static void theLastOneCounts() {
        Checks.part("of their CLAUSES for one thing (and SORT) the last one counts (LAWS by number)");
        PacketLaw x = new PacketLaw();
        x.maker();
        x.declare(0, 1, 0, 1000);
        Checks.law(x, 5, "target tin 1;target tin 2;target film 3;trips 4;trips 5;orphans schemes;orphans makers;fee glass=1;fee glass=2;");
        Checks.due("of two in a law the last", 2, () -> x.tells(5, 2, 0));
        Checks.due("another sort's is another thing", 3, () -> x.tells(5, 3, 0));
        Checks.due("trips", 5, () -> x.tells(5, 2, 4));
        Checks.due("orphans", 0, () -> x.tells(5, 2, 5));
        Checks.due("why", 8, () -> x.why(5, 1));
        Checks.law(x, 0, "target tin 6;trips 7;orphans schemes;fee glass=9;");
        Checks.due("a law of a later number, from an earlier year", 6, () -> x.tells(5, 2, 0));
        Checks.due("trips", 7, () -> x.tells(5, 2, 4));
        Checks.due("orphans", 1, () -> x.tells(5, 2, 5));
        Checks.due("why", 103, () -> x.why(5, 1));
        Checks.due("what it does not tell is told before", 3, () -> x.tells(5, 3, 0));
        Checks.law(x, 6, "target tin 8;fee glass=10;");
        Checks.due("one not in force does not count", 6, () -> x.tells(5, 2, 0));
        Checks.due("fee in 0", 9, () -> x.fee(0, 0, 0));
        Checks.due("why in 5", 103, () -> x.why(5, 1));
        Checks.due("why in 6", 201, () -> x.why(6, 1));
        Checks.due("one in force counts", 8, () -> x.tells(6, 2, 0));
        Checks.law(x, 0, "target tin 0;orphans makers;");
        Checks.due("0 is told as well", 0, () -> x.tells(6, 2, 0));
        Checks.due("the makers' again", 0, () -> x.tells(6, 2, 5));
    }

    private static void oneMoreBan() {
        Checks.part("a ban is one more each time: one whose C holds (or that has none) is enough");
        String[] laws = {"ban tin if 1=2;ban tin if 1=1;", "ban tin if 1=1;ban tin if 1=2;", "ban tin;ban tin if 1=2;", "ban tin if 1=2;ban tin;",
            "ban tin if 1=2;ban tin if 1=2;", "ban film if 1=1;ban tin if 1=2;", "ban film;"};
        boolean[] want = {true, true, true, true, false, false, false};
        for (int i = 0; i < laws.length; i++) {
            PacketLaw x = new PacketLaw();
            x.maker();
            x.packet(0);
            x.make(0, 0, 0, 1, 0, 0, 0);
            Checks.law(x, 0, laws[i]);
            Checks.dueTruth(laws[i], want[i], () -> x.banned(0, 0, 0));
            Checks.law(x, 0, "ban tin if 1=2;least 1;");
            Checks.dueTruth(laws[i] + " and a later law", want[i], () -> x.banned(0, 0, 0));
            Checks.law(x, 3, "ban tin;");
            Checks.dueTruth(laws[i] + " and one from 3 on, in 2", want[i], () -> x.banned(0, 0, 2));
            Checks.dueTruth(laws[i] + " and one from 3 on, in 3", true, () -> x.banned(0, 0, 3));
        }
    }

    private static void nothingOfSpoiltTexts() {
        Checks.part("a text with a FAULT is no LAW: nothing of it stands in the next one");
        String[] spoilt = {"least 1;ban tin;?", "ban tin if not 1=1;?", "ban tin if 1=1 and not 1=2", "ban tin if not [1=1 and 2=2];fee tin=x;"};
        String[] laws = {"least 1;", "ban tin if 1=2;", "ban film;ban tin if 1=2 and 1=1;", ""};
        for (String text : spoilt) {
            for (String law : laws) {
                PacketLaw x = new PacketLaw();
                x.maker();
                x.packet(0);
                x.make(0, 0, 0, 1, 0, 0, 0);
                Checks.due(text, -9, () -> Checks.law(x, 0, text));
                Checks.due(law + " behind " + text, 0, () -> Checks.law(x, 0, law));
                Checks.dueTruth("no ban of it", false, () -> x.banned(0, 0, 0));
                Checks.due("nor a least", law.startsWith("least") ? 1 : 0, () -> x.tells(0, 0, 3));
            }
        }
        PacketLaw y = new PacketLaw();
        y.maker();
        y.packet(0);
        y.make(0, 0, 0, 1, 0, 0, 0);
        Checks.due("spoilt", -9, () -> Checks.law(y, 0, "ban tin if not 1=1;?"));
        Checks.due("a law of the same beginning", 0, () -> Checks.law(y, 0, "ban tin if 1=1;"));
        Checks.dueTruth("holds", true, () -> y.banned(0, 0, 0));
        Checks.due("tried", 0, () -> Checks.tried(y, 0, 0, "least 3;ban film if not 2=2;trips 7;"));
        Checks.due("a law behind it", 1, () -> Checks.law(y, 0, "least 2;"));
        Checks.due("least", 2, () -> y.tells(0, 0, 3));
        Checks.due("trips", 1, () -> y.tells(0, 0, 4));
    }

    private static void without() {
        Checks.part("Without: fee 100, target 0, off 100, towns 0, least 0, trips 1, orphans makers");
        PacketLaw x = new PacketLaw();
        x.maker();
        x.maker();
        x.scheme();
        x.scheme();
        x.packet(0);
        x.make(0, 10, 10, 10, 10, 10, 0);
        x.sold(0, 0, 100, 40, 50);
        x.join(0, 0, 0);
        x.join(1, 1, 0);
        x.load(0, 20000, 20, 20, 20, 20, 0);
        x.orphans(0, 0, 3);
        x.orphans(4, 0, 3);
        for (int sort = 0; sort < 5; sort++) {
            int s = sort;
            x.declare(0, s, 0, 1009);
            Checks.due("fee 100, by 1000, cut, of so many sorts", 100 * (s + 1), () -> x.fee(0, 0, 0));
            Checks.due("target 0", 0, () -> x.tells(0, s, 0));
            Checks.due("bound to nothing but orphans", s % 4 == 0 ? 3 : 0, () -> x.owes(0, s, 0, 0, 1));
            Checks.due("off 100, trips 1", 600, () -> x.kilos(0, s, 0));
            Checks.due("no fee is told", -1, () -> x.why(0, s));
        }
        Checks.due("towns 0", 0, () -> x.pay(0, 0, -1));
        Checks.dueTruth("least 0", false, () -> x.small(1, 0, 0));
        x.declare(1, 4, 0, 1009);
        // by makers: 1.5 each; the first maker has the kilogram that is over
        Checks.due("orphans makers", 2, () -> x.owes(0, 4, 0, 0, 4));
        Checks.due("orphans makers", 1, () -> x.owes(1, 4, 0, 0, 4));
        Checks.dueTruth("no ban", false, () -> x.banned(0, 0, 0));
        Checks.law(x, 0, "");
        Checks.due("a law without clauses tells nothing", 500, () -> x.fee(0, 0, 0));
        Checks.due("nor an off", 100, () -> x.tells(0, 0, 1));
    }
}
