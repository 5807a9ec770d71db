/** Texts of sheets that come close to a limit. */
final class Texts {
    /** The least number of 64 bits, as an A, with no NUMBER above nine digits. */
    static final String LEAST = "(65536*65536*65536*32768)";
    /** The largest one. */
    static final String MOST = "(65536*65536*65536*32768-1)";

    private Texts() { }

    /** So many consts ca, cb, .. of eleven bytes each. */
    static String consts(int n) {
        return named("const c?=1;", n);
    }

    /** So many tables ta, tb, .. of thirteen bytes each. */
    static String tables(int n) {
        return named("table t? 1=1;", n);
    }

    /** So many checks of ten bytes each that throw nothing. */
    static String checks(int n) {
        return "check 1:1;".repeat(n);
    }

    /** A part repeated, with a, b, c .. for its question mark. */
    static String named(String part, int n) {
        StringBuilder text = new StringBuilder();
        for (int i = 0; i < n; i++) {
            text.append(part.replace('?', (char) ('a' + i)));
        }
        return text.toString();
    }

    /** Something within so many openings. */
    static String within(int n, String open, String inner, String close) {
        return open.repeat(n) + inner + close.repeat(n);
    }

    /** Blanks ahead of a text, so that both have so many bytes. */
    static String wide(int bytes, String text) {
        return " ".repeat(bytes - text.length()) + text;
    }
}
