import java.util.ArrayList;
import java.util.List;

/** One new program beside one new model: every call goes to both, and they must answer the same. */
final class Bench {
    static final long NO_VALUE = -2000000000000000L;
    private static int wrong = 0;
    private static int dues = 0;
    private static int longest = 0;

    private final TollAlmanac program = new TollAlmanac();
    private final Model model = new Model();
    private final List<String> calls = new ArrayList<>();
    private int made = 0;

    /** Ends the test: exit code 1 if an answer was not the one that is due. */
    static void close(String test) {
        System.out.println(test + ": " + (wrong == 0 ? "all answers are as due" : wrong + " answers are not as due"));
        System.exit(wrong == 0 ? 0 : 1);
    }

    static void tell(String what) {
        wrong++;
        System.out.println(what);
    }

    static int wrongs() {
        return wrong;
    }

    /** How many answers were held against the one that is due. */
    static int dues() {
        return dues;
    }

    /** The most calls that one object has had since forgetLongest(). */
    static int longest() {
        return longest;
    }

    static void forgetLongest() {
        longest = 0;
    }

    /** The answer of the latest call must be this one. */
    static void due(long want, long got, String what) {
        dues++;
        if (got != want) {
            tell(what + " answered " + got + ", due is " + want);
        }
    }

    static void due(long want, boolean got, String what) {
        due(want, got ? 1 : 0, what);
    }

    int callCount() {
        return calls.size();
    }

    private long same(String call, long got, long modelled) {
        calls.add(call + " -> " + got);
        made++;
        longest = Math.max(longest, made);
        if (got != modelled) {
            tell(call + " answered " + got + ", the model says " + modelled + ", after:");
            if (wrong <= 3) {
                calls.forEach(System.out::println);
            }
        }
        return got;
    }

    private boolean same(String call, boolean got, boolean modelled) {
        return same(call, got ? 1 : 0, modelled ? 1 : 0) == 1;
    }

    /** Feeds a text, filled up with zero bytes, and cuts the tape behind it. */
    int text(String text) {
        int had = feedRows(text);
        return had < 0 ? had : end(had + text.length());
    }

    private int feedRows(String text) {
        int had = -1;
        for (int row = 0; row < text.length(); row += 20) {
            int[] n = new int[5];
            for (int i = 0; i < 20; i++) {
                int c = row + i < text.length() ? text.charAt(row + i) : 0;
                n[i / 4] |= c << (24 - i % 4 * 8);
            }
            int has = feed(n[0], n[1], n[2], n[3], n[4]);
            if (has < 0) {
                return has;
            }
            had = had < 0 ? has - 20 : had;
        }
        return Math.max(had, 0);
    }

    /** The text is made the sheet of a year. */
    int put(int year, String text) {
        if (text.isEmpty()) {
            end(0);
        } else {
            text(text);
        }
        calls.add("(" + text + ")");
        return sheet(year);
    }

    /** The text must have a fault at a place. */
    void faulty(int year, String text, int fault, int place) {
        due(-1, put(year, text), "sheet of " + text);
        due(fault, fault(0), "fault of " + text);
        due(place, fault(1), "place in " + text);
    }

    /** The text must be a sheet with so many steps. */
    void right(int year, String text, int steps) {
        due(steps, put(year, text), "sheet of " + text);
        due(0, fault(0), "fault of " + text);
        due(-1, fault(1), "place in " + text);
    }

    int feed(int a, int b, int c, int d, int e) {
        return (int) same("feed(" + a + ", " + b + ", " + c + ", " + d + ", " + e + ")", program.feed(a, b, c, d, e), model.feed(a, b, c, d, e));
    }

    int end(int n) {
        return (int) same("end(" + n + ")", program.end(n), model.end(n));
    }

    int sheet(int year) {
        return (int) same("sheet(" + year + ")", program.sheet(year), model.sheet(year));
    }

    int fault(int what) {
        return (int) same("fault(" + what + ")", program.fault(what), model.fault(what));
    }

    boolean forget(int year) {
        return same("forget(" + year + ")", program.forget(year), model.forget(year));
    }

    int issue() {
        return (int) same("issue()", program.issue(), model.issue());
    }

    int state(int year, int what) {
        return (int) same("state(" + year + ", " + what + ")", program.state(year, what), model.state(year, what));
    }

    boolean leans(int year, int other) {
        return same("leans(" + year + ", " + other + ")", program.leans(year, other), model.leans(year, other));
    }

    long constant(int year, int k) {
        return same("constant(" + year + ", " + k + ")", program.constant(year, k), model.constant(year, k));
    }

    long entry(int year, int k, int i) {
        return same("entry(" + year + ", " + k + ", " + i + ")", program.entry(year, k, i), model.entry(year, k, i));
    }

    int need(int year) {
        return (int) same("need(" + year + ")", program.need(year), model.need(year));
    }

    int started(int i) {
        return (int) same("started(" + i + ")", program.started(i), model.started(i));
    }

    int voyage(int tons, int cargo) {
        return (int) same("voyage(" + tons + ", " + cargo + ")", program.voyage(tons, cargo), model.voyage(tons, cargo));
    }

    int lock(int voyage, int lock, int year, int day) {
        return (int) same("lock(" + voyage + ", " + lock + ", " + year + ", " + day + ")",
            program.lock(voyage, lock, year, day), model.lock(voyage, lock, year, day));
    }

    int bill(int voyage) {
        return (int) same("bill(" + voyage + ")", program.bill(voyage), model.bill(voyage));
    }

    long line(int voyage, int what) {
        return same("line(" + voyage + ", " + what + ")", program.line(voyage, what), model.line(voyage, what));
    }

    int count(int what) {
        return (int) same("count(" + what + ")", program.count(what), model.count(what));
    }
}
