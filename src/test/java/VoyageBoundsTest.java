/** Terms 4, sentence by sentence: voyages, their locks and bills, on both sides of each boundary. */
public final class VoyageBoundsTest {
    private static final long NO = Bench.NO_VALUE;

    public static void main(String[] args) {
        Sentences.holds("VOYAGES (at most 20, from 0 on)", VoyageBoundsTest::atMostTwenty);
        Sentences.holds("have tons 0 .. 100000", VoyageBoundsTest::tons);
        Sentences.holds("and a cargo 0 .. 9", VoyageBoundsTest::cargo);
        Sentences.holds("and at most 8 LOCKS", VoyageBoundsTest::eightLocks);
        Sentences.holds("a lock's number 0 .. 99", VoyageBoundsTest::lockNumbers);
        Sentences.holds("0 .. 99, a year,", VoyageBoundsTest::lockYears);
        Sentences.holds("a day 1 .. 366", VoyageBoundsTest::days);
        Sentences.holds("BILLED: LOCK by LOCK its year is NEEDED, then its rule is WORKED", VoyageBoundsTest::lockByLock);
        Sentences.holds("of this SHEET, else of the one that it is under, and so on", VoyageBoundsTest::rulesOfTheOlder);
        Sentences.holds("(802 if there is none): a LINE", VoyageBoundsTest::noRule);
        Sentences.holds("If something is THROWN the bill does not come out.", VoyageBoundsTest::thrown);
        Sentences.holds("Else it is the sum (64 bits, around)", VoyageBoundsTest::sums);
        Sentences.holds("and it is BOOKED", VoyageBoundsTest::booked);
        Bench.close("VoyageBoundsTest");
    }

    /** An object with a rule in 1700 and one voyage. */
    private static void start(Bench b, String rule, int tons, int cargo) {
        b.put(1700, "rule " + rule + ";");
        b.issue();
        b.voyage(tons, cargo);
    }

    private static void atMostTwenty(Bench b) {
        Bench.due(-1, b.lock(0, 0, 1700, 1), "no voyage yet");
        for (int i = 0; i < 20; i++) {
            Bench.due(i, b.voyage(5, 5), "voyage " + i);
            Bench.due(i + 1, b.count(4), "voyages");
        }
        Bench.due(-1, b.voyage(5, 5), "one too many");
        Bench.due(20, b.count(4), "twenty");
        Bench.due(1, b.lock(0, 0, 1700, 1), "the first");
        Bench.due(1, b.lock(19, 0, 1700, 1), "the last");
        Bench.due(-1, b.lock(20, 0, 1700, 1), "there is none behind it");
        Bench.due(-1, b.lock(-1, 0, 1700, 1), "nor ahead of the first");
    }

    private static void tons(Bench b) {
        b.put(1700, "rule tons;");
        b.issue();
        Bench.due(-1, b.voyage(-1, 0), "below 0");
        Bench.due(-1, b.voyage(Integer.MIN_VALUE, 0), "far below");
        Bench.due(0, b.voyage(0, 0), "the least");
        Bench.due(1, b.voyage(100000, 0), "the most");
        Bench.due(-1, b.voyage(100001, 0), "above");
        Bench.due(-1, b.voyage(Integer.MAX_VALUE, 0), "far above");
        Bench.due(2, b.count(4), "two voyages");
        for (int i = 0; i < 2; i++) {
            b.lock(i, 0, 1700, 1);
            Bench.due(0, b.bill(i), "bill");
            Bench.due(i * 100000L, b.line(i, 0), "its tons");
        }
    }

    private static void cargo(Bench b) {
        b.put(1700, "table t 10=at*at+1;rule t[cargo];");
        b.issue();
        Bench.due(-1, b.voyage(1, -1), "below 0");
        Bench.due(-1, b.voyage(1, 10), "above 9");
        Bench.due(-1, b.voyage(1, Integer.MIN_VALUE), "far below");
        Bench.due(-1, b.voyage(1, Integer.MAX_VALUE), "far above");
        for (int i = 0; i < 10; i++) {
            Bench.due(i, b.voyage(1, i), "cargo " + i);
            b.lock(i, 0, 1700, 1);
            Bench.due(0, b.bill(i), "bill");
            Bench.due((long) i * i + 1, b.line(i, 0), "by its cargo");
        }
    }

    private static void eightLocks(Bench b) {
        start(b, "lock+1", 0, 0);
        b.voyage(0, 0);
        for (int i = 1; i <= 8; i++) {
            Bench.due(i, b.lock(0, i, 1700, 1), "lock " + i);
        }
        Bench.due(-1, b.lock(0, 50, 1700, 1), "one too many");
        Bench.due(1, b.lock(1, 60, 1700, 1), "another voyage has room");
        Bench.due(0, b.bill(0), "bill");
        Bench.due(44, b.line(0, 0), "2 + .. + 9");
        Bench.due(9, b.line(0, 8), "the eighth");
        Bench.due(NO, b.line(0, 9), "no ninth");
        Bench.due(0, b.bill(1), "the other one's");
        Bench.due(61, b.line(1, 0), "one line");
    }

    private static void lockNumbers(Bench b) {
        start(b, "lock", 0, 0);
        Bench.due(-1, b.lock(0, -1, 1700, 1), "below 0");
        Bench.due(-1, b.lock(0, 100, 1700, 1), "above 99");
        Bench.due(-1, b.lock(0, Integer.MIN_VALUE, 1700, 1), "far below");
        Bench.due(-1, b.lock(0, Integer.MAX_VALUE, 1700, 1), "far above");
        Bench.due(1, b.lock(0, 0, 1700, 1), "the least");
        Bench.due(2, b.lock(0, 99, 1700, 1), "the most");
        Bench.due(0, b.bill(0), "bill");
        Bench.due(0, b.line(0, 1), "0");
        Bench.due(99, b.line(0, 2), "99");
    }

    private static void lockYears(Bench b) {
        b.put(1700, "rule 3;");
        b.put(1729, "rule 4;");
        b.issue();
        b.voyage(0, 0);
        Bench.due(-1, b.lock(0, 0, 1699, 1), "ahead of the first year");
        Bench.due(-1, b.lock(0, 0, 1730, 1), "behind the last");
        Bench.due(-1, b.lock(0, 0, 0, 1), "the place of a year in a row is no year");
        Bench.due(1, b.lock(0, 0, 1700, 1), "the first");
        Bench.due(2, b.lock(0, 0, 1729, 1), "the last");
        Bench.due(0, b.bill(0), "bill");
        Bench.due(7, b.line(0, 0), "3 + 4");
        Bench.due(3, b.lock(0, 0, 1710, 1), "a year without a sheet is a year");
    }

    private static void days(Bench b) {
        start(b, "day", 0, 0);
        Bench.due(-1, b.lock(0, 0, 1700, 0), "below 1");
        Bench.due(-1, b.lock(0, 0, 1700, -1), "below 0");
        Bench.due(-1, b.lock(0, 0, 1700, 367), "above 366");
        Bench.due(-1, b.lock(0, 0, 1700, Integer.MIN_VALUE), "far below");
        Bench.due(-1, b.lock(0, 0, 1700, Integer.MAX_VALUE), "far above");
        Bench.due(1, b.lock(0, 0, 1700, 1), "the first");
        Bench.due(2, b.lock(0, 0, 1700, 366), "the last");
        Bench.due(0, b.bill(0), "bill");
        Bench.due(1, b.line(0, 1), "1");
        Bench.due(366, b.line(0, 2), "366");
    }

    private static void lockByLock(Bench b) {
        b.put(1700, "table t 1=1;rule 1703.t[0]+10*day;");
        b.put(1701, "under 1702;rule 1/(day-5);");
        b.put(1702, "table t 1=1;");
        b.put(1703, "table t 1=1704.t[0]+2;");
        b.put(1704, "table t 1=3;");
        b.put(1705, "rule 1;");
        b.issue();
        b.voyage(0, 0);
        b.lock(0, 1, 1700, 2);
        b.lock(0, 2, 1701, 5);
        b.lock(0, 3, 1705, 1);
        Bench.due(801, b.bill(0), "the second lock throws");
        int[] row = {1700, 1703, 1704, 1701, 1702};
        for (int i = 0; i < row.length; i++) {
            Bench.due(row[i], b.started(i), "start " + i);
        }
        Bench.due(1, b.state(1705, 0), "the third lock's year is not needed");
        Bench.due(2, b.state(1701, 0), "a rule withdraws nothing");
        b.voyage(0, 0);
        b.lock(1, 1, 1700, 2);
        b.lock(1, 2, 1701, 6);
        b.lock(1, 3, 1700, 7);
        Bench.due(0, b.bill(1), "bill");
        long[] want = {25 + 1 + 75, 25, 1, 75};
        for (int what = 0; what < 4; what++) {
            Bench.due(want[what], b.line(1, what), "line " + what);
        }
        Bench.due(5, b.count(1), "no further start");
    }

    private static void rulesOfTheOlder(Bench b) {
        for (int year = 1700; year < 1729; year++) {
            b.put(year, "under " + (year + 1) + ";");
        }
        b.put(1729, "rule 9;");
        b.issue();
        b.voyage(0, 0);
        b.lock(0, 0, 1700, 1);
        Bench.due(0, b.bill(0), "the rule of the thirtieth");
        Bench.due(9, b.line(0, 0), "9");
        b.put(1715, "under 1716;rule 8;");
        b.issue();
        Bench.due(0, b.bill(0), "the nearest");
        Bench.due(8, b.line(0, 0), "8");
        b.put(1700, "under 1701;rule 7;");
        b.issue();
        Bench.due(0, b.bill(0), "this sheet's own");
        Bench.due(7, b.line(0, 0), "7");
        b.put(1701, "under 1702;rule 6;");
        Bench.due(0, b.bill(0), "not issued");
        b.put(1700, "under 1701;");
        b.issue();
        Bench.due(0, b.bill(0), "issued");
        Bench.due(6, b.line(0, 0), "6");
    }

    private static void noRule(Bench b) {
        b.put(1700, "");
        b.put(1701, "under 1700;");
        b.put(1702, "under 1703;");
        b.put(1703, "under 1702;");
        b.put(1704, "check 0:5;");
        b.put(1705, "rule 0;");
        b.issue();
        for (int i = 0; i < 6; i++) {
            b.voyage(0, 0);
            b.lock(i, 0, 1700 + i, 1);
        }
        Bench.due(802, b.bill(0), "none in this sheet");
        Bench.due(802, b.bill(1), "nor in the one that it is under");
        Bench.due(802, b.bill(2), "none in a round");
        Bench.due(5, b.bill(4), "its year is needed first");
        Bench.due(0, b.bill(5), "one that comes to 0");
        Bench.due(0, b.line(5, 1), "a line of 0");
        Bench.due(2, b.state(1700, 0), "the years have started");
        Bench.due(0, b.state(1700, 2), "802 was thrown out of none");
        for (int year = 1706; year <= 1728; year++) {
            b.put(year, "under " + (year + 1) + ";");
        }
        b.put(1729, "under 1700;");
        b.put(1700, "under 1701;");
        b.put(1701, "under 1702;");
        b.issue();
        b.voyage(0, 0);
        b.lock(6, 0, 1706, 1);
        Bench.due(802, b.bill(6), "none in a long chain that ends in a round");
    }

    private static void thrown(Bench b) {
        b.put(1700, "rule 100/day;table t 1=1;");
        b.put(1701, "rule 100/(lock-1);");
        b.put(1702, "rule 1700.t[lock];");
        b.put(1703, "rule nix;");
        b.put(1704, "check 0:6;rule 1;");
        b.put(1705, "rule 1704.t[0];");
        b.put(1706, "rule 1729.t[0];");
        b.issue();
        int[] thrown = {0, 801, 805, 802, 6, 804, 803};
        for (int i = 0; i < thrown.length; i++) {
            b.voyage(0, 0);
            b.lock(i, 0, 1700, 4);
            b.lock(i, 1, 1700 + i, 4);
            Bench.due(thrown[i], b.bill(i), "thrown by the second lock of voyage " + i);
            Bench.due(i == 0 ? 50 : NO, b.line(i, 0), "the sum");
            Bench.due(i == 0 ? 25 : NO, b.line(i, 1), "the first line, though it was worked");
            Bench.due(NO, b.line(i, 3), "no third line");
        }
        Bench.due(1, b.count(2), "one was booked");
        Bench.due(6, b.count(3), "six did not come out");
    }

    private static void sums(Bench b) {
        b.put(1700, "rule day=1?" + Texts.MOST + ":day=2?" + Texts.LEAST + ":day-10;");
        b.issue();
        int[][] days = {{1}, {1, 11}, {2, 9}, {2, 2}, {1, 1, 12}, {2, 1}, {10, 10, 10}, {9, 8, 7, 6, 5, 4, 3, 20}};
        long[] sums = {Long.MAX_VALUE, Long.MIN_VALUE, Long.MAX_VALUE, 0, 0, -1, 0, -1 - 2 - 3 - 4 - 5 - 6 - 7 + 10};
        for (int i = 0; i < days.length; i++) {
            b.voyage(0, 0);
            for (int day : days[i]) {
                b.lock(i, 0, 1700, day);
            }
            Bench.due(0, b.bill(i), "bill");
            Bench.due(sums[i], b.line(i, 0), "sum " + i);
        }
        Bench.due(Long.MAX_VALUE, b.line(1, 1), "lines are as they were");
        Bench.due(1, b.line(1, 2), "lines are as they were");
    }

    private static void booked(Bench b) {
        start(b, "1/(day-3)", 0, 0);
        b.lock(0, 0, 1700, 4);
        Bench.due(0, b.count(2), "none yet");
        b.bill(0);
        Bench.due(1, b.count(2), "booked");
        b.bill(0);
        Bench.due(2, b.count(2), "and again");
        b.lock(0, 0, 1700, 3);
        Bench.due(801, b.bill(0), "thrown");
        Bench.due(2, b.count(2), "not booked");
        Bench.due(1, b.count(3), "not come out");
        b.bill(1);
        Bench.due(2, b.count(2), "a refused one is neither");
        Bench.due(1, b.count(3), "a refused one is neither");
    }
}
