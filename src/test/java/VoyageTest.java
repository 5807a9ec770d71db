/** Promises 14 to 18: voyage, lock, bill, line, count, with term 4. */
public final class VoyageTest {
    private static final long NO = Bench.NO_VALUE;

    public static void main(String[] args) {
        voyages();
        locks();
        lines();
        settings();
        rulesOfTheOlder();
        billsThatDoNotComeOut();
        billsOfTheLatest();
        sumsGoAround();
        starts();
        counts();
        Bench.close("VoyageTest");
    }

    private static void voyages() {
        Bench b = new Bench();
        Bench.due(-1, b.voyage(-1, 0), "tons below 0");
        Bench.due(-1, b.voyage(100001, 0), "tons above 100000");
        Bench.due(-1, b.voyage(0, -1), "cargo below 0");
        Bench.due(-1, b.voyage(0, 10), "cargo above 9");
        Bench.due(-1, b.voyage(Integer.MIN_VALUE, Integer.MAX_VALUE), "both");
        Bench.due(0, b.count(4), "refused ones are none");
        Bench.due(0, b.voyage(0, 0), "the least");
        Bench.due(1, b.voyage(100000, 9), "the most");
        for (int i = 2; i < 20; i++) {
            Bench.due(i, b.voyage(i, 5), "voyage " + i);
        }
        Bench.due(-1, b.voyage(1, 1), "there are 20");
        Bench.due(20, b.count(4), "20");
        Bench.due(1, b.lock(19, 0, 1700, 1), "the last one");
        Bench.due(-1, b.lock(20, 0, 1700, 1), "behind it");
    }

    private static void locks() {
        Bench b = new Bench();
        b.voyage(1, 1);
        Bench.due(-1, b.lock(-1, 0, 1700, 1), "no voyage");
        Bench.due(-1, b.lock(1, 0, 1700, 1), "no voyage");
        Bench.due(-1, b.lock(Integer.MAX_VALUE, 0, 1700, 1), "no voyage");
        Bench.due(-1, b.lock(0, -1, 1700, 1), "lock below 0");
        Bench.due(-1, b.lock(0, 100, 1700, 1), "lock above 99");
        Bench.due(-1, b.lock(0, 0, 1699, 1), "no year");
        Bench.due(-1, b.lock(0, 0, 1730, 1), "no year");
        Bench.due(-1, b.lock(0, 0, 1700, 0), "day below 1");
        Bench.due(-1, b.lock(0, 0, 1700, 367), "day above 366");
        Bench.due(-1, b.bill(0), "no locks");
        Bench.due(1, b.lock(0, 0, 1700, 1), "the least");
        Bench.due(2, b.lock(0, 99, 1729, 366), "the most");
        for (int i = 3; i <= 8; i++) {
            Bench.due(i, b.lock(0, 5, 1705, 5), "lock " + i);
        }
        Bench.due(-1, b.lock(0, 5, 1705, 5), "it has 8");
        Bench.due(803, b.bill(0), "years without a class");
    }

    private static void lines() {
        Bench b = new Bench();
        b.put(1700, "rule lock*10+day;");
        b.put(1701, "rule -tons;");
        b.issue();
        b.voyage(7, 3);
        for (int i = 0; i < 7; i++) {
            b.lock(0, i, 1700, i + 1);
        }
        b.lock(0, 50, 1701, 1);
        Bench.due(NO, b.line(0, 0), "no bill yet");
        Bench.due(0, b.bill(0), "bill");
        long sum = 0;
        for (int i = 0; i < 7; i++) {
            Bench.due(i * 10 + i + 1, b.line(0, i + 1), "line " + i);
            sum += i * 10 + i + 1;
        }
        Bench.due(-7, b.line(0, 8), "the last line");
        Bench.due(sum - 7, b.line(0, 0), "the sum");
        for (int what : new int[] {-1, 9, 10, Integer.MAX_VALUE, Integer.MIN_VALUE}) {
            Bench.due(NO, b.line(0, what), "another what");
        }
        for (int voyage : new int[] {-1, 1, 20, Integer.MAX_VALUE, Integer.MIN_VALUE}) {
            Bench.due(NO, b.line(voyage, 0), "no voyage");
            Bench.due(-1, b.bill(voyage), "no voyage");
        }
    }

    private static void settings() {
        Bench b = new Bench();
        b.put(1700, "const k=3;table t 10=at*100;rule tons*1000000+cargo*100000+lock*1000+day+t[cargo]*k*100000000*10;");
        b.issue();
        b.voyage(42, 9);
        b.lock(0, 98, 1700, 365);
        Bench.due(0, b.bill(0), "bill");
        Bench.due(42000000L + 900000 + 98000 + 365 + 2700L * 1000000000, b.line(0, 1), "all settings");
        b.voyage(43, 8);
        b.lock(1, 97, 1700, 364);
        b.bill(1);
        Bench.due(43000000L + 800000 + 97000 + 364 + 2400L * 1000000000, b.line(1, 1), "of another voyage");
        Bench.due(42000000L + 900000 + 98000 + 365 + 2700L * 1000000000, b.line(0, 1), "the first is as it was");
    }

    private static void rulesOfTheOlder() {
        Bench b = new Bench();
        b.put(1700, "const a=1;table t 1=10;rule a+t[0]+1701.t[0];");
        b.put(1701, "under 1700;const a=2;table t 1=20;");
        b.put(1702, "under 1701;const a=4;table t 1=40;");
        b.put(1703, "check 1:1;");
        b.put(1704, "under 1705;");
        b.put(1705, "under 1704;");
        b.issue();
        b.voyage(0, 0);
        b.lock(0, 0, 1702, 1);
        Bench.due(0, b.bill(0), "the rule of 1700");
        Bench.due(31, b.line(0, 0), "worked where it stands");
        b.voyage(0, 0);
        b.lock(1, 0, 1703, 1);
        Bench.due(802, b.bill(1), "no rule");
        Bench.due(2, b.state(1703, 0), "its year was needed first");
        b.voyage(0, 0);
        b.lock(2, 0, 1704, 1);
        Bench.due(802, b.bill(2), "no rule in a round");
        b.put(1701, "under 1700;rule 5;");
        Bench.due(0, b.bill(0), "the classes as they are");
        Bench.due(31, b.line(0, 0), "as they are");
        b.issue();
        Bench.due(31, b.line(0, 0), "of the latest bill");
        Bench.due(0, b.bill(0), "bill anew");
        Bench.due(5, b.line(0, 0), "the nearest rule");
    }

    private static void billsThatDoNotComeOut() {
        Bench b = new Bench();
        b.put(1700, "rule 100/(day-5);");
        b.put(1701, "check 0:66;rule 1;");
        b.put(1702, "table t 2=1;rule t[lock];");
        b.put(1703, "rule nix;");
        b.put(1704, "rule 1701.t[0];");
        b.issue();
        int[][] all = {{1700, 5, 1, 801}, {1701, 1, 1, 66}, {1702, 1, 2, 805}, {1703, 1, 1, 802}, {1704, 1, 1, 804}, {1729, 1, 1, 803}};
        for (int i = 0; i < all.length; i++) {
            b.voyage(1, 1);
            b.lock(i, all[i][2], all[i][0], all[i][1]);
            Bench.due(all[i][3], b.bill(i), "thrown by " + all[i][0]);
            Bench.due(NO, b.line(i, 0), "no sum");
            Bench.due(NO, b.line(i, 1), "no line");
            Bench.due(i + 1, b.count(3), "bills that did not come out");
        }
        Bench.due(0, b.count(2), "none booked");
        Bench.due(2, b.state(1700, 0), "a rule that throws withdraws nothing");
        Bench.due(804, b.bill(1), "withdrawn by now");
    }

    private static void billsOfTheLatest() {
        Bench b = new Bench();
        b.put(1700, "rule day;");
        b.issue();
        b.voyage(1, 1);
        b.lock(0, 1, 1700, 3);
        b.bill(0);
        b.lock(0, 1, 1700, 4);
        Bench.due(3, b.line(0, 0), "the bill is as it was");
        Bench.due(NO, b.line(0, 2), "the new lock has no line");
        b.bill(0);
        Bench.due(7, b.line(0, 0), "billed anew");
        Bench.due(4, b.line(0, 2), "with a line");
        b.lock(0, 1, 1701, 4);
        Bench.due(803, b.bill(0), "does not come out");
        Bench.due(NO, b.line(0, 0), "the former one is gone");
        Bench.due(NO, b.line(0, 1), "its lines, too");
        b.put(1701, "rule 1;");
        b.issue();
        Bench.due(NO, b.line(0, 0), "until it is billed");
        Bench.due(0, b.bill(0), "it comes out");
        Bench.due(8, b.line(0, 0), "3 + 4 + 1");
        Bench.due(1, b.line(0, 3), "the third");
    }

    private static void sumsGoAround() {
        Bench b = new Bench();
        b.put(1700, "rule 65536*65536*65536*16384;");
        b.put(1701, "rule -2*1000000*1000000*1000;");
        b.issue();
        b.voyage(1, 1);
        b.lock(0, 1, 1700, 1);
        b.lock(0, 1, 1700, 1);
        Bench.due(0, b.bill(0), "bill");
        Bench.due(Long.MIN_VALUE, b.line(0, 0), "2^63 goes around");
        b.lock(0, 1, 1700, 1);
        b.lock(0, 1, 1700, 1);
        b.bill(0);
        Bench.due(0, b.line(0, 0), "2^64 goes around");
        Bench.due(1L << 62, b.line(0, 4), "a line");
        b.voyage(1, 1);
        b.lock(1, 1, 1701, 1);
        Bench.due(0, b.bill(1), "a line may be any number");
        Bench.due(NO, b.line(1, 0), "this one, too");
        Bench.due(1, b.count(2) - 2, "it is booked");
    }

    private static void starts() {
        Bench b = new Bench();
        b.put(1700, "table t 1=1702.v[0];rule t[0];");
        b.put(1701, "under 1700;rule 1703.w[0];");
        b.put(1702, "table v 1=2;");
        b.put(1703, "table w 1=3;");
        b.issue();
        b.voyage(1, 1);
        b.lock(0, 1, 1701, 1);
        b.lock(0, 1, 1702, 1);
        Bench.due(802, b.bill(0), "1702 has no rule");
        int[] row = {1701, 1700, 1702, 1703};
        for (int i = 0; i < row.length; i++) {
            Bench.due(row[i], b.started(i), "start " + i);
            Bench.due(2, b.state(row[i], 0), "starts stay");
        }
        Bench.due(4, b.count(1), "four starts");
        Bench.due(0, b.state(1703, 3), "no halves by a rule");
    }

    private static void counts() {
        Bench b = new Bench();
        b.put(1700, "rule 1;");
        b.issue();
        b.issue();
        b.voyage(1, 1);
        b.bill(0);
        Bench.due(0, b.count(3), "a refused bill counts nowhere");
        b.lock(0, 1, 1700, 1);
        b.bill(0);
        b.bill(0);
        b.lock(0, 1, 1701, 1);
        b.bill(0);
        Bench.due(2, b.count(0), "editions");
        Bench.due(1, b.count(1), "starts");
        Bench.due(2, b.count(2), "booked");
        Bench.due(1, b.count(3), "that did not come out");
        Bench.due(1, b.count(4), "voyages");
        for (int what : new int[] {-1, 5, 6, Integer.MAX_VALUE, Integer.MIN_VALUE}) {
            Bench.due(-1, b.count(what), "another what");
        }
    }
}
