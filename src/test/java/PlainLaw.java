import java.util.ArrayList;
import java.util.LinkedHashSet;
import java.util.List;
import java.util.Set;

/**
 * LAWS in another way than the program's: the FAULT by a set of stacks of what may still come (each sign
 * drops the stacks that it can't go on), the WORTH by cutting the text at its outermost signs.
 */
final class PlainLaw {
    private PlainLaw() {
    }

    static int fault(String text) {
        Set<String> stacks = new LinkedHashSet<>();
        stacks.add("B0L0");
        for (int i = 0; i < text.length(); i++) {
            Set<String> next = new LinkedHashSet<>();
            for (String stack : opened(stacks)) {
                if (!stack.isEmpty() && stack.charAt(0) == '\'' && stack.charAt(1) == text.charAt(i)) {
                    next.add(stack.substring(2));
                }
            }
            if (next.isEmpty()) {
                return i;
            }
            stacks = next;
        }
        return opened(stacks).contains("") ? -1 : text.length();
    }

    /** All stacks that these lead to, with a sign (or nothing) on top. */
    private static Set<String> opened(Set<String> stacks) {
        Set<String> done = new LinkedHashSet<>();
        Set<String> seen = new LinkedHashSet<>(stacks);
        List<String> open = new ArrayList<>(stacks);
        while (!open.isEmpty()) {
            String stack = open.remove(open.size() - 1);
            if (stack.isEmpty() || stack.charAt(0) == '\'') {
                done.add(stack);
                continue;
            }
            for (String way : ways(stack.charAt(0), stack.charAt(1) - '0')) {
                String next = way + stack.substring(2);
                if (seen.add(next)) {
                    open.add(next);
                }
            }
        }
        return done;
    }

    private static List<String> ways(char symbol, int depth) {
        List<String> ways = new ArrayList<>();
        String d = String.valueOf(depth);
        String deeper = String.valueOf(depth + 1);
        switch (symbol) {
            case 'B' -> {
                ways.add("");
                ways.add("' B0");
            }
            case 'L' -> ways.add("C0M0");
            case 'M' -> {
                ways.add("");
                ways.add("';B0C0M0");
            }
            case 'C' -> {
                ways.add("'yB0':B0S0");
                ways.add("'yB0':B0K0'?B0S0");
            }
            case 'K' -> ways.add("T" + d + "k" + d);
            case 'k' -> {
                ways.add("");
                ways.add("'|B0T" + d + "k" + d);
            }
            case 'T' -> ways.add("U" + d + "t" + d);
            case 't' -> {
                ways.add("");
                ways.add("'&B0U" + d + "t" + d);
            }
            case 'U' -> {
                for (String sign : new String[] {"=", "<", ">"}) {
                    ways.add("S" + d + "'" + sign + "B0S" + d);
                }
                if (depth < 6) {
                    ways.add("'!B0U" + deeper);
                    ways.add("'(B0K" + deeper + "')B0");
                }
            }
            case 'S' -> ways.add("P" + d + "s" + d);
            case 's' -> {
                ways.add("");
                ways.add("'+B0P" + d + "s" + d);
                ways.add("'-B0P" + d + "s" + d);
            }
            case 'P' -> ways.add("A" + d + "p" + d);
            case 'p' -> {
                ways.add("");
                ways.add("'*B0A" + d + "p" + d);
                ways.add("'/B0A" + d + "p" + d);
            }
            case 'A' -> {
                ways.add("D0d3B0");
                for (String letter : new String[] {"s", "x", "f", "w", "p"}) {
                    ways.add("'" + letter + "B0");
                }
                if (depth < 6) {
                    ways.add("'[B0S" + deeper + "']B0");
                }
            }
            case 'D' -> {
                for (char digit = '0'; digit <= '9'; digit++) {
                    ways.add("'" + digit);
                }
            }
            case 'd' -> {
                ways.add("");
                if (depth > 0) {
                    ways.add("D0d" + (depth - 1));
                }
            }
            default -> throw new IllegalStateException("symbol " + symbol);
        }
        return ways;
    }

    /** Of a text without FAULT. The books in the order s x f w p. */
    static long worth(String text, int[] books) {
        for (String clause : text.split(";")) {
            String body = clause.substring(clause.indexOf(':') + 1);
            int mark = body.indexOf('?');
            if (mark < 0) {
                return sum(body, books);
            }
            if (holds(body.substring(0, mark), books)) {
                return sum(body.substring(mark + 1), books);
            }
        }
        return 0;
    }

    /** The last place of one of the signs outside all brackets; -1. */
    private static int lastOf(String text, String signs) {
        int depth = 0;
        for (int i = text.length() - 1; i >= 0; i--) {
            char c = text.charAt(i);
            if (c == ')' || c == ']') {
                depth++;
            } else if (c == '(' || c == '[') {
                depth--;
            } else if (depth == 0 && signs.indexOf(c) >= 0) {
                return i;
            }
        }
        return -1;
    }

    private static boolean holds(String text, int[] books) {
        text = text.trim();
        int or = lastOf(text, "|");
        if (or >= 0) {
            return holds(text.substring(0, or), books) | holds(text.substring(or + 1), books);
        }
        int and = lastOf(text, "&");
        if (and >= 0) {
            return holds(text.substring(0, and), books) & holds(text.substring(and + 1), books);
        }
        if (text.charAt(0) == '!') {
            return !holds(text.substring(1), books);
        }
        if (text.charAt(0) == '(') {
            return holds(text.substring(1, text.length() - 1), books);
        }
        int sign = lastOf(text, "=<>");
        long left = sum(text.substring(0, sign), books);
        long right = sum(text.substring(sign + 1), books);
        return switch (text.charAt(sign)) {
            case '=' -> left == right;
            case '<' -> left < right;
            default -> left > right;
        };
    }

    private static long sum(String text, int[] books) {
        text = text.trim();
        int sign = lastOf(text, "+-");
        if (sign < 0) {
            sign = lastOf(text, "*/");
        }
        if (sign >= 0) {
            long left = sum(text.substring(0, sign), books);
            long right = sum(text.substring(sign + 1), books);
            long whole = switch (text.charAt(sign)) {
                case '+' -> left + right;
                case '-' -> left - right;
                case '*' -> left * right;
                default -> right == 0 ? 0 : left / right;
            };
            return Math.max(-1_000_000, Math.min(1_000_000, whole));
        }
        if (text.charAt(0) == '[') {
            return sum(text.substring(1, text.length() - 1), books);
        }
        int book = "sxfwp".indexOf(text.charAt(0));
        return book >= 0 ? books[book] : Long.parseLong(text);
    }
}
