import java.util.Random;

/** Makes laws' texts from the document's grammar; some are spoilt afterwards. */
final class TextMaker {
    private static final String[] SORTS = {"paper", "glass", "tin", "film", "mixed"};
    private static final String[] FACTS = {"year", "kilos", "share", "grams", "layers"};
    private static final String SIGNS = " ;=+-*/(),[]<>09anotAZ\u00ff\u0000";

    private final Random random;
    private final StringBuilder text = new StringBuilder();
    private final int wish;

    TextMaker(Random random) {
        this.random = random;
        wish = random.nextInt(4) == 0 ? 9 : 3;
    }

    String text() {
        int clauses = random.nextInt(6) == 0 ? 17 : random.nextInt(6);
        for (int i = 0; i < clauses && text.length() < 320; i++) {
            clause(clauses > 6);
        }
        if (random.nextInt(5) == 0) {
            spoil();
        }
        if (random.nextInt(5) == 0) {
            put(" ");
        }
        text.setLength(Math.min(400, text.length()));
        return text.toString();
    }

    private void spoil() {
        int at = random.nextInt(text.length() + 1);
        int dice = random.nextInt(4);
        if (dice == 0) {
            text.insert(at, SIGNS.charAt(random.nextInt(SIGNS.length())));
        } else if (dice == 1 && at < text.length()) {
            text.deleteCharAt(at);
        } else if (dice == 2 && at < text.length()) {
            text.setCharAt(at, SIGNS.charAt(random.nextInt(SIGNS.length())));
        } else {
            text.setLength(at);
        }
    }

    private void put(String token) {
        for (int i = random.nextInt(8) == 0 ? random.nextInt(3) : 0; i > 0; i--) {
            text.append(' ');
        }
        boolean joins = text.length() > 0 && isLetter(text.charAt(text.length() - 1)) && isLetter(token.charAt(0));
        boolean digits = text.length() > 0 && isDigit(text.charAt(text.length() - 1)) && isDigit(token.charAt(0));
        text.append(joins || digits ? " " : "").append(token);
    }

    private static boolean isLetter(char c) {
        return c >= 'a' && c <= 'z';
    }

    private static boolean isDigit(char c) {
        return c >= '0' && c <= '9';
    }

    private void number(int most) {
        int dice = random.nextInt(60);
        put((dice == 1 ? "000" : "") + (dice == 0 ? most + 1 : dice < 5 ? most : random.nextInt(Math.min(most, dice < 30 ? 12 : 9999) + 1)));
    }

    private void clause(boolean shortly) {
        String[] kinds = {"off", "target", "towns", "least", "trips", "orphans", "fee", "fee", "fee", "ban", "ban"};
        String kind = kinds[random.nextInt(shortly ? 6 : kinds.length)];
        put(kind);
        if ("fee target off towns ban".contains(kind)) {
            put(SORTS[random.nextInt(random.nextBoolean() ? 2 : 5)]);
        }
        switch (kind) {
            case "fee":
                put("=");
                sum(0);
                break;
            case "ban":
                if (random.nextInt(4) > 0) {
                    put("if");
                    either(0);
                }
                break;
            case "orphans":
                put(random.nextBoolean() ? "makers" : "schemes");
                break;
            case "least":
                number(random.nextBoolean() ? 9999 : 50);
                break;
            case "towns":
                number(9999);
                break;
            case "trips":
                number(50);
                break;
            default:
                number(100);
        }
        put(";");
    }

    private boolean goesOn(int open) {
        return text.length() < 300 && random.nextInt(open + 2) == 0;
    }

    private void sum(int open) {
        product(open);
        while (goesOn(open)) {
            put(random.nextBoolean() ? "+" : "-");
            product(open);
        }
    }

    private void product(int open) {
        unit(open);
        while (goesOn(open)) {
            put(random.nextBoolean() ? "*" : "/");
            unit(open);
        }
    }

    private void unit(int open) {
        int dice = random.nextInt(wish > 3 ? 14 : 6);
        if (open > wish || text.length() > 300 || dice < 2) {
            number(9999);
        } else if (dice < 4) {
            put(FACTS[random.nextInt(FACTS.length)]);
        } else if (dice % 2 == 0) {
            put("(");
            sum(open + 1);
            put(")");
        } else {
            put(random.nextBoolean() ? "min" : "max");
            put("(");
            sum(open + 1);
            put(",");
            sum(open + 1);
            put(")");
        }
    }

    private void either(int open) {
        both(open);
        while (goesOn(open)) {
            put("or");
            both(open);
        }
    }

    private void both(int open) {
        test(open);
        while (goesOn(open)) {
            put("and");
            test(open);
        }
    }

    private void test(int open) {
        int dice = random.nextInt(wish > 3 ? 3 : 5);
        if (open > wish || text.length() > 300 || dice > 1) {
            sum(open);
            put(String.valueOf("<>=".charAt(random.nextInt(3))));
            sum(open);
        } else if (dice == 0) {
            put("not");
            test(open + 1);
        } else {
            put("[");
            either(open + 1);
            put("]");
        }
    }
}
