import java.util.Random;

/** Texts that are LAWS, and texts that are nearly so. */
final class RandomLaw {
    private static final String SIGNS = "y:;?|&!()[]=<>+-*/ 0123456789sxfwp Y.\u00ff";

    private final Random random;

    RandomLaw(Random random) {
        this.random = random;
    }

    String text(int most) {
        String text;
        do {
            StringBuilder made = new StringBuilder();
            for (int i = random.nextInt(3); i >= 0; i--) {
                made.append(blank()).append('y').append(blank()).append(':').append(blank());
                if (random.nextInt(3) > 0) {
                    made.append(condition(0)).append('?').append(blank());
                }
                made.append(sum(0)).append(i > 0 ? ";" : "");
            }
            text = made.toString();
        } while (text.length() > most);
        return text;
    }

    /** One sign is another, one more, or one less; or the text ends early. */
    static String spoiled(Random random, String text) {
        int at = random.nextInt(text.length() + 1);
        char sign = SIGNS.charAt(random.nextInt(SIGNS.length()));
        String rest = text.substring(Math.min(text.length(), at + random.nextInt(2)));
        return switch (random.nextInt(3)) {
            case 0 -> text.substring(0, at);
            case 1 -> text.substring(0, at) + rest;
            default -> text.substring(0, at) + sign + rest;
        };
    }

    private String blank() {
        return " ".repeat(random.nextInt(12) == 0 ? 1 + random.nextInt(2) : 0);
    }

    private String condition(int depth) {
        StringBuilder made = new StringBuilder(unit(depth));
        while (random.nextInt(3) == 0) {
            made.append(random.nextBoolean() ? '|' : '&').append(blank()).append(unit(depth));
        }
        return made.toString();
    }

    private String unit(int depth) {
        int which = random.nextInt(depth < 6 ? 6 : 4);
        if (which == 5) {
            return "!" + blank() + unit(depth + 1);
        }
        if (which == 4) {
            return "(" + blank() + condition(depth + 1) + ")" + blank();
        }
        return sum(depth) + "=<>".charAt(random.nextInt(3)) + blank() + sum(depth);
    }

    private String sum(int depth) {
        StringBuilder made = new StringBuilder(atom(depth));
        while (random.nextInt(3) == 0) {
            made.append("+-*/".charAt(random.nextInt(4))).append(blank()).append(atom(depth));
        }
        return made.toString();
    }

    private String atom(int depth) {
        int which = random.nextInt(depth < 6 ? 6 : 5);
        if (which == 5) {
            return "[" + blank() + sum(depth + 1) + "]" + blank();
        }
        if (which > 2) {
            int[] bounds = {10, 10, 100, 10000};
            return random.nextInt(bounds[random.nextInt(4)]) + blank();
        }
        return "sxfwp".charAt(random.nextInt(5)) + blank();
    }
}
