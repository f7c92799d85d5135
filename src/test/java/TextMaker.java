import java.util.Random;

/** Draws texts: most of them right, some with a sign or a word changed. */
final class TextMaker {
    private static final String[] WORDS = {
        "picks", "paces", "make", "of", "load", "from", "store", "to", "drop", "day", "live", "used", "if", "then",
        "else", "end", "or", "and", "not", "clock", "phase", "free", "stack", "page", "lives", "words", "fields",
        "<=", ">=", "<", ">", "=", "#", "+", "-", "*", "/", "(", ")", ";", "0", "9999", "10000", "7", "foo", "A",
        "?", "\u00e9", "\u0000", "\t", "\n", " ", "99999999999999999999", "00000000000000000001"
    };

    private final Random draw;
    private boolean picks;

    TextMaker(Random draw) {
        this.draw = draw;
    }

    String text() {
        StringBuilder text = new StringBuilder();
        int clauses = draw.nextInt(8) == 0 ? 20 + draw.nextInt(8) : draw.nextInt(7);
        boolean lawless = clauses > 12;
        for (int i = 0; i < clauses; i++) {
            text.append(lawless ? shortDeed() : clause()).append(draw.nextInt(4) == 0 ? "\n" : "");
        }
        for (int i = draw.nextInt(3) == 0 ? 1 : 0; i > 0; i--) {
            spoil(text);
        }
        return text.length() > 300 ? text.substring(0, 300) : text.toString();
    }

    private void spoil(StringBuilder text) {
        int place = draw.nextInt(text.length() + 1);
        int end = Math.min(text.length(), place + draw.nextInt(4));
        String word = draw.nextInt(4) == 0 ? "" : " " + WORDS[draw.nextInt(WORDS.length)] + " ";
        text.replace(place, end, word);
    }

    private String shortDeed() {
        return draw.nextInt(3) == 0 ? "drop " + draw.nextInt(6) + ";" : "make " + draw.nextInt(6) + " of 1;";
    }

    private String clause() {
        int r = draw.nextInt(6);
        int q = draw.nextInt(6);
        switch (draw.nextInt(8)) {
            case 0:
            case 1:
                picks = true;
                return "picks " + sum(3) + ";";
            case 2:
                picks = false;
                return "paces " + sum(3) + ";";
            case 3:
                return "make " + r + " of " + draw.nextInt(4) + ";";
            case 4:
                return "load " + r + " from " + q + " of " + draw.nextInt(3) + ";";
            case 5:
                return "store " + r + " to " + q + " of " + draw.nextInt(3) + ";";
            case 6:
                return "drop " + r + ";";
            default:
                return "day " + (1 + draw.nextInt(draw.nextInt(9) == 0 ? 60 : 5)) + ";";
        }
    }

    private String sum(int deep) {
        StringBuilder sum = new StringBuilder(product(deep));
        for (int i = draw.nextInt(3); i > 0; i--) {
            sum.append(draw.nextBoolean() ? "+" : " - ").append(product(deep));
        }
        return sum.toString();
    }

    private String product(int deep) {
        StringBuilder product = new StringBuilder(one(deep));
        for (int i = draw.nextInt(4) == 0 ? 1 + draw.nextInt(2) : 0; i > 0; i--) {
            product.append(draw.nextBoolean() ? "*" : "/").append(one(deep));
        }
        return product.toString();
    }

    private String one(int deep) {
        int which = draw.nextInt(deep > 0 ? 16 : 9);
        if (which < 4) {
            return draw.nextInt(8) == 0 ? "9999" : String.valueOf(draw.nextInt(10));
        }
        if (which < 9) {
            return name();
        }
        switch (which) {
            case 9:
                return "(" + sum(deep - 1) + ")";
            case 10:
                return "- ".repeat(draw.nextInt(12) == 0 ? 8 : 1) + one(deep - 1);
            case 11:
                return "live ".repeat(draw.nextInt(8) == 0 ? 7 : 1) + one(deep - 1);
            case 12:
                return "used " + one(deep - 1);
            default:
                return "if " + either(deep - 1) + " then " + sum(deep - 1) + " else " + sum(deep - 1) + " end";
        }
    }

    private String name() {
        String[] both = {"clock", "phase", "free", "stack"};
        String[] own = {"page", "lives", "words"};
        if (draw.nextInt(40) == 0) {
            return picks ? "fields" : own[draw.nextInt(3)];
        }
        if (draw.nextInt(3) == 0) {
            return both[draw.nextInt(4)];
        }
        return picks ? own[draw.nextInt(3)] : "fields";
    }

    private String either(int deep) {
        String either = ask(deep);
        for (int i = draw.nextInt(3) == 0 ? 1 + draw.nextInt(2) : 0; i > 0; i--) {
            either = either + (draw.nextBoolean() ? " or " : " and ") + ask(deep);
        }
        return either;
    }

    private String ask(int deep) {
        String[] how = {"<", "<=", ">", ">=", "=", "#"};
        String not = "not ".repeat(draw.nextInt(5) == 0 ? draw.nextInt(9) : 0);
        return not + sum(deep > 0 ? deep - 1 : 0) + how[draw.nextInt(6)] + sum(0);
    }
}
