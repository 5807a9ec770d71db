import java.util.ArrayList;
import java.util.List;
import java.util.Set;

/** The model's tokens: a kind ("name", "number", "end", "broken", or the word or sign itself), a text and a place. */
final class ModelTokens {
    static final Set<String> WORDS = Set.of("under", "const", "rule", "table", "check", "try", "else",
        "at", "tons", "cargo", "lock", "day");

    record Token(String kind, String text, int place) { }

    private ModelTokens() { }

    static List<Token> of(String text) {
        List<Token> tokens = new ArrayList<>();
        int place = 0;
        while (place < text.length()) {
            char c = text.charAt(place);
            if (c == ' ' || c == '\n') {
                place++;
                continue;
            }
            int stop = place + 1;
            if (isLetter(c)) {
                while (stop < text.length() && isLetter(text.charAt(stop))) {
                    stop++;
                }
            } else if (isDigit(c)) {
                while (stop < text.length() && isDigit(text.charAt(stop))) {
                    stop++;
                }
            }
            String row = text.substring(place, stop);
            tokens.add(new Token(kindOf(row), row, place));
            place = stop;
        }
        tokens.add(new Token("end", "", text.length()));
        return tokens;
    }

    private static String kindOf(String row) {
        char c = row.charAt(0);
        if (isLetter(c)) {
            return row.length() > 8 ? "broken" : WORDS.contains(row) ? row : "name";
        }
        if (isDigit(c)) {
            return row.length() > 9 ? "broken" : "number";
        }
        return "{}[]();:=<>+-*/%?.".contains(row) ? row : "broken";
    }

    private static boolean isLetter(char c) {
        return c >= 'a' && c <= 'z';
    }

    private static boolean isDigit(char c) {
        return c >= '0' && c <= '9';
    }
}
