/** The largest sheets and the longest starts that the document allows, and odd arguments in any state. */
public final class LimitsTest {
    private static final int[] ODD = {Integer.MIN_VALUE, -1700, -2, -1, 0, 1, 7, 8, 12, 20, 31, 32, 900, 1669, 1699, 1700,
        1715, 1729, 1730, 1732, 100000, 100001, Integer.MAX_VALUE};

    public static void main(String[] args) {
        fullSheets();
        deepStart();
        deepThrow();
        deepNesting();
        thrownMidway();
        longConstants();
        oddArguments(new Bench());
        oddArguments(grown());
        Bench.close("LimitsTest");
    }

    /** Thirty years at 900 bytes each, with six tables of twelve, in one start. */
    private static void fullSheets() {
        for (int round = 0; round < 3; round++) {
            Bench b = new Bench();
            for (int year = 1700; year < 1730; year++) {
                StringBuilder text = new StringBuilder(year < 1729 ? "under " + (year + 1) + ";" : "");
                for (char t = 'a'; t < 'g'; t++) {
                    text.append("table ").append(t).append(" 12=at");
                    for (int i = 0; i < 60; i++) {
                        text.append(round == 0 ? "+1" : round == 1 ? "*3" : "-a");
                    }
                    text.append(round == 2 && year < 1729 ? "-(" + (year + 1) + ".a)" : "").append(';');
                }
                b.put(year, text.length() > 900 ? text.substring(0, 900) : text.toString());
            }
            b.issue();
            b.need(1700);
            b.entry(1700, 5, 11);
            b.entry(1729, 5, 11);
            Bench.due(30, b.count(1), "all thirty start");
        }
    }

    private static void deepStart() {
        Bench b = new Bench();
        for (int year = 1700; year < 1729; year++) {
            b.put(year, "table t 1=" + "1+(".repeat(10) + (year + 1) + ".t[0]" + ")".repeat(10) + ";");
        }
        b.put(1729, "table t 1=1700.t[0]+5;");
        Bench.due(30, b.issue(), "all lean on one another");
        Bench.due(0, b.need(1700), "thirty in one another");
        Bench.due(295, b.entry(1700, 0, 0), "29 * 10 + 5");
        Bench.due(1, b.state(1700, 3), "one half");
        Bench.due(1729, b.started(29), "the last");
        b.voyage(1, 1);
        b.lock(0, 1, 1700, 1);
        Bench.due(802, b.bill(0), "no rule");
        b.put(1700, "rule " + "1+(".repeat(10) + "1701.t[0]" + ")".repeat(10) + ";table t 1=2;");
        Bench.due(30, b.issue(), "the round is made anew");
        Bench.due(0, b.bill(0), "a rule that starts the others");
        Bench.due(10 + 28 * 10 + 7, b.line(0, 0), "10 + 28 * 10 + 5 + 2");
        Bench.due(60, b.count(1), "sixty starts");
    }

    private static void deepThrow() {
        Bench b = new Bench();
        for (int year = 1700; year < 1729; year++) {
            b.put(year, year == 1715 ? "try{check 1716.t[0]:1;}else{table t 1=8;}" : "table t 1=" + (year + 1) + ".t[0];");
        }
        b.put(1729, "check 1-1:555;");
        b.issue();
        Bench.due(0, b.need(1700), "thrown through fourteen, caught by 1715");
        Bench.due(8, b.entry(1700, 0, 0), "8");
        for (int year = 1700; year < 1730; year++) {
            Bench.due(year > 1715 ? 3 : 2, b.state(year, 0), "state of " + year);
            Bench.due(year > 1715 ? 555 : 0, b.state(year, 2), "thrown by " + year);
        }
    }

    /** Three numbers are held at each of twelve levels, in a start within other starts. */
    private static void deepNesting() {
        Bench b = new Bench();
        for (int year = 1700; year < 1730; year++) {
            String inner = year < 1729 ? (year + 1) + ".t[0]" : "1";
            b.put(year, "table t 1=" + "0<1+2*(".repeat(10) + "0<1+2*" + inner + ")".repeat(10) + ";");
        }
        b.issue();
        Bench.due(0, b.need(1700), "need");
        Bench.due(1, b.entry(1700, 0, 0), "all are above 0");
        b.put(1700, "table t 1=" + "1=2-3*(".repeat(11) + "1=2-3*1" + ")".repeat(11) + ";");
        b.issue();
        Bench.due(0, b.need(1700), "need");
        Bench.due(0, b.entry(1700, 0, 0), "2 - 3 * x is 1 for no x");
    }

    /** What an expression held when something was thrown in it is dropped, however often. */
    private static void thrownMidway() {
        Bench b = new Bench();
        String one = "try{check " + "1+2*(".repeat(10) + "1/0" + ")".repeat(10) + ":1;}else{}";
        for (int year = 1700; year < 1730; year++) {
            b.put(year, (year < 1729 ? "under " + (year + 1) + ";" : "") + one.repeat(8) + "table t 1=" + "1+2*(".repeat(11) + "3" + ")".repeat(11) + ";");
        }
        b.issue();
        Bench.due(0, b.need(1700), "all are caught");
        for (int year = 1700; year < 1730; year++) {
            Bench.due(8191, b.entry(year, 0, 0), "the table of " + year);
        }
    }

    /** Each const of thirty years needs the one behind it, so that all are open at once. */
    private static void longConstants() {
        Bench b = new Bench();
        for (int year = 1700; year < 1730; year++) {
            StringBuilder text = new StringBuilder();
            for (int k = 0; k < 8; k++) {
                String next = k < 7 ? "" + (char) ('b' + k) : year < 1729 ? (year + 1) + ".a" : "1";
                text.append("const ").append((char) ('a' + k)).append("=").append(next).append("+1;");
            }
            b.put(year, text.toString());
        }
        b.issue();
        Bench.due(241, b.constant(1700, 0), "240 consts in one another");
        StringBuilder many = new StringBuilder("const z=0");
        for (int i = 0; i < 140; i++) {
            many.append("+1701.").append((char) ('a' + i % 8)).append(i % 2 == 0 ? "-1" : "");
        }
        b.put(1700, many.substring(0, 890) + ";");
        b.issue();
        b.constant(1700, 0);
        b.put(1729, "const a=1700.z;");
        b.issue();
        Bench.due(Bench.NO_VALUE, b.constant(1700, 0), "all need themselves");
        Bench.due(Bench.NO_VALUE, b.constant(1715, 4), "all need themselves");
    }

    private static Bench grown() {
        Bench b = new Bench();
        b.put(1700, "const a=1;table t 3=at;rule t[1]+tons;");
        b.put(1715, "under 1700;table u 1=1729.v[0];");
        b.put(1729, "table v 12=1715.u[0];check 0:9;");
        b.issue();
        for (int i = 0; i < 20; i++) {
            b.voyage(i, i % 10);
            b.lock(i, i, i % 2 == 0 ? 1700 : 1715, i + 1);
        }
        return b;
    }

    private static void oddArguments(Bench b) {
        for (int one : ODD) {
            b.end(one);
            b.feed(one, -one, one, -one, one);
            b.fault(one);
            b.need(one);
            b.started(one);
            b.bill(one);
            b.count(one);
            for (int other : ODD) {
                b.state(one, other);
                b.leans(one, other);
                b.constant(one, other);
                b.line(one, other);
                b.lock(0, one, other, 5);
                b.lock(one, 1, 1700, other);
                b.entry(one, other, 0);
                b.entry(one, 0, other);
                b.voyage(one, other);
            }
        }
        for (int one : ODD) {
            b.sheet(one);
            b.forget(one);
        }
        b.issue();
    }
}
