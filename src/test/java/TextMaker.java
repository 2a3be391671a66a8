import java.util.Random;

/** Makes texts for THE TAPE: most of them right ones, some with a byte or a token that is wrong. */
final class TextMaker {
    private static final String[] TOKENS = {
        "place", "from", "step", "number", "left", "all", "further", "passes", "pays", "or", "and", "not",
        "(", ")", ";", "+", "-", "*", "<", "=", "0", "7", "9999", "12345", "00000", "lef", "lefta", "passing",
        "Step", "!", "\t", " ", "\n", "\r", "\u00ff", ">", "/"
    };

    private final Random random;

    TextMaker(Random random) {
        this.random = random;
    }

    String text() {
        String text;
        do {
            int depth = random.nextInt(6);
            text = "further" + gap(true) + e(depth) + ";" + gap(false)
                + "passes" + gap(true) + e(random.nextInt(3)) + gap(false) + ";"
                + "pays" + gap(true) + e(random.nextInt(4)) + ";" + gap(false);
        } while (text.length() > 160);
        int spoils = random.nextInt(3) == 0 ? 1 + random.nextInt(2) : 0;
        for (int i = 0; i < spoils; i++) {
            text = spoilt(text);
        }
        return text.length() > 160 ? text.substring(0, 160) : text;
    }

    private String spoilt(String text) {
        int at = random.nextInt(text.length() + 1);
        String token = TOKENS[random.nextInt(TOKENS.length)];
        int past = Math.min(text.length(), at + random.nextInt(3));
        switch (random.nextInt(4)) {
            case 0: return text.substring(0, at) + token + text.substring(at);
            case 1: return text.substring(0, at) + text.substring(past);
            case 2: return text.substring(0, at) + token + text.substring(past);
            default: return random.nextInt(3) == 0 ? text.substring(0, at) + "x".substring(1) : text + token;
        }
    }

    private String gap(boolean must) {
        int n = random.nextInt(4);
        return n == 0 ? "\n" : n == 1 || must ? " " : "";
    }

    private String e(int depth) {
        int kind = depth == 0 ? random.nextInt(2) : random.nextInt(12);
        switch (kind) {
            case 0: return String.valueOf(random.nextInt(random.nextInt(5) == 0 ? 10000 : 8));
            case 1: return TOKENS[random.nextInt(6)];
            case 2: return e(depth - 1) + " or " + e(depth - 1);
            case 3: return e(depth - 1) + " and " + e(depth - 1);
            case 4: return "not " + e(depth - 1);
            case 5: return e(depth - 1) + "<" + e(depth - 1);
            case 6: return e(depth - 1) + gap(false) + "=" + e(depth - 1);
            case 7: return e(depth - 1) + "+" + e(depth - 1);
            case 8: return e(depth - 1) + "-" + gap(false) + e(depth - 1);
            case 9: return e(depth - 1) + "*" + e(depth - 1);
            case 10: return "-" + e(depth - 1);
            default: return "(" + gap(false) + e(depth - 1) + ")";
        }
    }
}
