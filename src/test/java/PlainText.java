import java.util.ArrayList;
import java.util.List;
import java.util.Map;
import java.util.regex.Matcher;
import java.util.regex.Pattern;

/** A TEXT as a tree of what it means, read by the document's grammar, level by level. */
final class PlainText {
    /** Thrown where the first FAULT is. */
    static final class Fault extends RuntimeException {
        private static final long serialVersionUID = 1;
        final int place;

        Fault(int place) {
            this.place = place;
        }
    }

    interface E {
        int value(Map<String, Integer> names);
    }

    private record Token(String word, int place) {
    }

    // From the loosest to the tightest; not stands between and and the comparisons.
    private static final String[][] LEVELS = {{"or"}, {"and"}, {"<", "="}, {"+", "-"}, {"*"}};
    private static final Pattern TOKEN = Pattern.compile("[a-z]+|[0-9]+|[ \n]+|.", Pattern.DOTALL);
    private static final List<String> KEYS = List.of("yards", "worth", "none", "or", "and", "not");
    private static final List<String> NAMES = List.of("speed", "luck", "won", "more", "runners", "race");

    private final List<Token> tokens = new ArrayList<>();
    private final List<E> parts = new ArrayList<>();
    private int next;

    private PlainText() {
    }

    static PlainText read(String tape) {
        PlainText text = new PlainText();
        Matcher token = TOKEN.matcher(tape);
        while (token.find()) {
            if (!token.group().isBlank() || !token.group().matches("[ \n]+")) {
                text.tokens.add(new Token(token.group(), token.start()));
            }
        }
        text.tokens.add(new Token("", tape.length()));
        for (String key : new String[] {"yards", "worth", "none"}) {
            text.take(key);
            text.parts.add(text.level(0, 0));
            text.take(";");
        }
        text.take("");
        return text;
    }

    int value(int part, Map<String, Integer> names) {
        return parts.get(part).value(names);
    }

    private String word() {
        return tokens.get(next).word;
    }

    private Fault fault() {
        return new Fault(tokens.get(next).place);
    }

    private void take(String word) {
        if (!word().equals(word)) {
            throw fault();
        }
        next++;
    }

    private void open(int open) {
        if (open == 5) {
            throw fault();
        }
        next++;
    }

    private E level(int level, int open) {
        if (level == 2 && word().equals("not")) {
            open(open);
            E denied = level(2, open + 1);
            return names -> denied.value(names) == 0 ? 1 : 0;
        }
        if (level == 5) {
            return one(open);
        }
        E left = level(level + 1, open);
        while (List.of(LEVELS[level]).contains(word())) {
            String sign = word();
            next++;
            left = joined(left, sign, level(level + 1, open));
            if (level == 2) {
                return left;
            }
        }
        return left;
    }

    private static E joined(E left, String sign, E right) {
        return switch (sign) {
            case "or" -> names -> left.value(names) != 0 | right.value(names) != 0 ? 1 : 0;
            case "and" -> names -> left.value(names) != 0 & right.value(names) != 0 ? 1 : 0;
            case "<" -> names -> left.value(names) < right.value(names) ? 1 : 0;
            case "=" -> names -> left.value(names) == right.value(names) ? 1 : 0;
            case "+" -> names -> left.value(names) + right.value(names);
            case "-" -> names -> left.value(names) - right.value(names);
            default -> names -> left.value(names) * right.value(names);
        };
    }

    private E one(int open) {
        String word = word();
        if (word.equals("-")) {
            open(open);
            E negated = one(open + 1);
            return names -> -negated.value(names);
        }
        if (word.equals("(")) {
            open(open);
            E inside = level(0, open + 1);
            take(")");
            return inside;
        }
        if (word.matches("[0-9]{1,4}")) {
            next++;
            int number = Integer.parseInt(word);
            return names -> number;
        }
        if (!NAMES.contains(word) || KEYS.contains(word)) {
            throw fault();
        }
        next++;
        return names -> names.get(word);
    }
}
