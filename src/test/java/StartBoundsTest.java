import java.util.List;

/** Terms 3, sentence by sentence: needing, starting, steps, and how an E is worked, on both sides of each boundary. */
public final class StartBoundsTest {
    private static final long NO = Bench.NO_VALUE;
    private static final String LEAST = Texts.LEAST;
    private static final String MOST = Texts.MOST;

    public static void main(String[] args) {
        needs();
        steps();
        numbers();
        names();
        Bench.close("StartBoundsTest");
    }

    private static void needs() {
        Sentences.holds("THROWN 803 if there is no class", StartBoundsTest::noClass);
        Sentences.holds("if C is STARTED, or is STARTING, nothing", StartBoundsTest::nothingMore);
        Sentences.holds("if it is WITHDRAWN: THROWN 804", StartBoundsTest::withdrawn);
        Sentences.holds("it is STARTING (the next one in the row of starts)", StartBoundsTest::rowOfStarts);
        Sentences.holds("if it is under a year that is NEEDED; then its STEPS are done in order", StartBoundsTest::olderOneFirst);
        Sentences.holds("If something is THROWN on the way, that is not caught within, C is WITHDRAWN, and what was THROWN goes on; else it is STARTED.",
            StartBoundsTest::thrownGoesOn);
    }

    private static void steps() {
        Sentences.holds("table: entry by entry from 0 on E is WORKED with at as its number, and is that entry", StartBoundsTest::entryByEntry);
        Sentences.holds("all entries are 0 ahead of that, from the class's making on", StartBoundsTest::zeroAheadOfThat);
        Sentences.holds("(a table within a 'try' that is not reached stays so)", StartBoundsTest::notReached);
        Sentences.holds("check: E is WORKED; if it is 0, its NUMBER is THROWN.", StartBoundsTest::checks);
        Sentences.holds("if something is THROWN in them, no further one of them is done (what was built stays), and the STEPS of else are done.",
            StartBoundsTest::tries);
        Sentences.holds("if something is THROWN in them", StartBoundsTest::allIsCaught);
    }

    private static void numbers() {
        Sentences.holds("numbers have 64 bits and go around", StartBoundsTest::around);
        Sentences.holds("= < > give 1 or 0", StartBoundsTest::comparisons);
        Sentences.holds("? takes the first unless it is 0 (the other one is not WORKED)", StartBoundsTest::choices);
        Sentences.holds("parts from the left", StartBoundsTest::fromTheLeft);
        Sentences.holds("/ cuts towards 0, % has the sign of the first", StartBoundsTest::divisions);
        Sentences.holds("by 0: THROWN 801", StartBoundsTest::byZero);
    }

    private static void names() {
        Sentences.holds("the const of that NAME of this SHEET (in which the E stands), else of the one that it is under, and so on, its VALUE",
            StartBoundsTest::consts);
        Sentences.holds("if there is none in a chain of 30, or it has no VALUE: 802", StartBoundsTest::noConst);
        Sentences.holds("NAME [E]: E is WORKED; then it is looked for", StartBoundsTest::indexFirst);
        Sentences.holds("in this SHEET, then in the one that it is under, and so on, what has a table of that NAME", StartBoundsTest::tablesOfTheOlder);
        Sentences.holds("(none in a chain of 30, this one the first: 802)", StartBoundsTest::noTable);
        Sentences.holds("that year is NEEDED, if it is not this one", StartBoundsTest::holderIsNeeded);
        Sentences.holds("an entry that there is not: 805", StartBoundsTest::noEntry);
        Sentences.holds("else the entry as it is", StartBoundsTest::entryAsItIs);
        Sentences.holds("Y . NAME: a const likewise of that year", StartBoundsTest::constsOfYears);
        Sentences.holds("Y . NAME [E]: E is WORKED, Y is NEEDED, then as above from Y's on.", StartBoundsTest::tablesOfYears);
        Sentences.holds("(A const is no table, a table no const.)", StartBoundsTest::constsAndTables);
        Sentences.holds("An entry that is read of a class that is STARTING, but by its own STEPS, is a HALF.", StartBoundsTest::halves);
    }

    /** What an E comes to in a table of one entry, or what is thrown there, below 0. */
    private static long worked(String text) {
        Bench b = new Bench();
        b.put(1700, "const k=5;const n=n;table t 3=at*10+1;table r 1=" + text + ";");
        b.issue();
        int thrown = b.need(1700);
        return thrown == 0 ? b.entry(1700, 1, 0) : -thrown;
    }

    private static void work(long want, String text) {
        Bench.due(want, worked(text), text);
    }

    private static void noClass(Bench b) {
        Bench.due(803, b.need(1700), "no sheet");
        b.put(1700, "");
        Bench.due(803, b.need(1700), "a sheet, but no class of it");
        b.issue();
        Bench.due(0, b.need(1700), "a class");
        b.forget(1700);
        Bench.due(0, b.need(1700), "the class of a forgotten sheet");
        b.put(1701, "under 1700;");
        b.put(1702, "check 1700.t[0]:1;");
        b.put(1703, "check 1?1:1700.t[0]:1;");
        b.issue();
        Bench.due(803, b.need(1700), "no class any more");
        Bench.due(803, b.need(1701), "under it");
        Bench.due(803, b.state(1701, 2), "thrown 803");
        Bench.due(3, b.state(1701, 0), "withdrawn");
        Bench.due(803, b.need(1702), "reading its table");
        Bench.due(0, b.need(1703), "not reading it");
        Bench.due(0, b.state(1700, 0), "it is not withdrawn: it is none");
    }

    private static void nothingMore(Bench b) {
        b.put(1700, "under 1701;table t 1=1701.u[0]+1;");
        b.put(1701, "under 1700;table u 1=1700.t[0]+1;");
        b.issue();
        for (int i = 0; i < 3; i++) {
            Bench.due(0, b.need(1700), "once and again");
            Bench.due(0, b.need(1701), "once and again");
            Bench.due(2, b.count(1), "each started once");
            Bench.due(2, b.entry(1700, 0, 0), "built once");
            Bench.due(1, b.entry(1701, 0, 0), "built once");
        }
        Bench.due(1, b.state(1700, 3), "1700 was starting when it was needed by 1701");
    }

    private static void withdrawn(Bench b) {
        b.put(1700, "const a=1;table t 1=1;check 0:8;");
        b.put(1701, "under 1700;");
        b.put(1702, "check 1700.t[0]:1;");
        b.put(1703, "check 1700.a:1;");
        b.put(1704, "try{check 1700.t[0]:1;}else{}");
        b.issue();
        Bench.due(8, b.need(1700), "the first time what it throws");
        Bench.due(804, b.need(1700), "from then on 804");
        Bench.due(804, b.need(1700), "and so on");
        Bench.due(804, b.need(1701), "under it");
        Bench.due(804, b.need(1702), "its table");
        Bench.due(0, b.need(1703), "its const");
        Bench.due(0, b.need(1704), "804 is caught");
        Bench.due(5, b.count(1), "it started once");
        Bench.due(8, b.state(1700, 2), "thrown when it was withdrawn");
        Bench.due(804, b.state(1701, 2), "thrown when this was");
        b.issue();
        Bench.due(804, b.need(1700), "an edition without it leaves it so");
        b.put(1700, "const a=1;table t 1=1;");
        Bench.due(804, b.need(1700), "a text leaves it so");
        b.issue();
        Bench.due(0, b.need(1700), "issued anew");
        Bench.due(0, b.need(1701), "with all that lean on it");
    }

    private static void rowOfStarts(Bench b) {
        b.put(1700, "under 1701;table t 1=1703.u[0];");
        b.put(1701, "under 1702;check 0=1702.q[1]:1;");
        b.put(1702, "table q 2=0;");
        b.put(1703, "table u 1=1;try{check 1704.x[0]:1;}else{}");
        b.put(1704, "check 0:1;");
        b.put(1705, "");
        b.issue();
        Bench.due(-1, b.started(0), "none yet");
        b.need(1700);
        int[] row = {1700, 1701, 1702, 1703, 1704};
        for (int i = 0; i < row.length; i++) {
            Bench.due(row[i], b.started(i), "start " + i);
        }
        Bench.due(-1, b.started(5), "no more");
        Bench.due(5, b.count(1), "one that was withdrawn is in the row");
        b.need(1705);
        b.need(1704);
        b.need(1700);
        Bench.due(1705, b.started(5), "the next");
        Bench.due(-1, b.started(6), "what does not start is not in it");
    }

    private static void olderOneFirst(Bench b) {
        b.put(1700, "under 1701;table t 1=1702.v[0];check 0:7;table u 1=3;");
        b.put(1701, "table s 1=4;");
        b.put(1702, "table v 1=5;");
        b.put(1703, "under 1704;try{table t 1=1;}else{table u 1=2;}");
        b.put(1704, "check 0:9;");
        b.put(1705, "table a 1=b[0];table b 1=6;table c 1=b[0];");
        b.issue();
        Bench.due(7, b.need(1700), "the second step throws");
        Bench.due(1701, b.started(1), "the older one ahead of the steps");
        Bench.due(1702, b.started(2), "then what the first step needs");
        Bench.due(5, b.entry(1700, 0, 0), "the first step was done");
        Bench.due(0, b.entry(1700, 1, 0), "the third one was not");
        Bench.due(9, b.need(1703), "the older one throws");
        Bench.due(0, b.entry(1703, 0, 0), "no step is done");
        Bench.due(0, b.entry(1703, 1, 0), "no try is around it");
        Bench.due(0, b.need(1705), "steps alone");
        Bench.due(0, b.entry(1705, 0, 0), "b is built behind a");
        Bench.due(6, b.entry(1705, 2, 0), "and ahead of c");
    }

    private static void thrownGoesOn(Bench b) {
        b.put(1700, "check 1701.t[0]:1;");
        b.put(1701, "table u 1=3;table t 1=1702.t[0];");
        b.put(1702, "under 1703;table t 1=1;");
        b.put(1703, "check 0:77;");
        b.put(1704, "try{check 1705.t[0]:1;}else{}");
        b.put(1705, "table t 1=1706.t[0];");
        b.put(1706, "check 0:66;");
        b.put(1707, "try{check 0:5;}else{}");
        b.issue();
        Bench.due(77, b.need(1700), "out of all");
        for (int year = 1700; year <= 1703; year++) {
            Bench.due(3, b.state(year, 0), "withdrawn: " + year);
            Bench.due(77, b.state(year, 2), "by 77: " + year);
        }
        Bench.due(3, b.entry(1701, 0, 0), "what was built stays");
        Bench.due(0, b.need(1704), "caught within");
        Bench.due(2, b.state(1704, 0), "started");
        Bench.due(0, b.state(1704, 2), "nothing was thrown out of it");
        Bench.due(66, b.state(1705, 2), "not caught within 1705");
        Bench.due(3, b.state(1706, 0), "nor within 1706");
        Bench.due(0, b.need(1707), "caught within");
        Bench.due(2, b.state(1707, 0), "started");
    }

    private static void entryByEntry(Bench b) {
        b.put(1700, "table t 12=at;table u 4=at?u[at-1]*2:1;table v 3=v[2-at]+at+1;table w 1=at+9;");
        b.issue();
        Bench.due(0, b.need(1700), "need");
        for (int i = 0; i < 12; i++) {
            Bench.due(i, b.entry(1700, 0, i), "entry " + i);
        }
        Bench.due(NO, b.entry(1700, 0, 12), "twelve entries");
        long[] doubled = {1, 2, 4, 8};
        for (int i = 0; i < 4; i++) {
            Bench.due(doubled[i], b.entry(1700, 1, i), "the one ahead of it is there");
        }
        long[] mirrored = {1, 2, 4};
        for (int i = 0; i < 3; i++) {
            Bench.due(mirrored[i], b.entry(1700, 2, i), "the ones behind it are not");
        }
        Bench.due(9, b.entry(1700, 3, 0), "a table of one entry");
    }

    private static void zeroAheadOfThat(Bench b) {
        b.put(1700, "table u 1=t[0]+1;table t 2=at+5;");
        Bench.due(NO, b.entry(1700, 0, 0), "no class, no entry");
        b.issue();
        Bench.due(0, b.entry(1700, 1, 1), "from its making on");
        b.need(1700);
        Bench.due(1, b.entry(1700, 0, 0), "t was 0");
        Bench.due(6, b.entry(1700, 1, 1), "t is built");
        b.put(1700, "table u 1=t[0]+1;table t 2=at+5;");
        b.issue();
        Bench.due(0, b.entry(1700, 1, 1), "0 in the new class");
        Bench.due(0, b.entry(1700, 0, 0), "0 in the new class");
        b.put(1701, "table v 3=6/(1-at);");
        b.issue();
        Bench.due(801, b.need(1701), "thrown at entry 1");
        Bench.due(6, b.entry(1701, 0, 0), "entry 0 was built");
        Bench.due(0, b.entry(1701, 0, 1), "entry 1 is 0");
        Bench.due(0, b.entry(1701, 0, 2), "entry 2 is 0");
    }

    private static void notReached(Bench b) {
        b.put(1700, "try{check 0:1;table t 2=7;}else{table u 1=t[1]+8;}table v 1=t[0]+9;");
        b.put(1701, "try{check 1:1;table t 2=7;}else{table u 1=8;}table v 1=u[0]+9;");
        b.issue();
        Bench.due(0, b.need(1700), "need");
        Bench.due(0, b.entry(1700, 0, 0), "not reached");
        Bench.due(0, b.entry(1700, 0, 1), "not reached");
        Bench.due(8, b.entry(1700, 1, 0), "read as 0 by else");
        Bench.due(9, b.entry(1700, 2, 0), "read as 0 behind the try");
        Bench.due(0, b.need(1701), "need");
        Bench.due(7, b.entry(1701, 0, 1), "reached");
        Bench.due(0, b.entry(1701, 1, 0), "else is not reached");
        Bench.due(9, b.entry(1701, 2, 0), "read as 0");
    }

    private static void checks(Bench b) {
        String[] worked = {"0", "1", "-1", LEAST, MOST, "1-1", "2<1", "1<2", "65536*65536*65536*65536", "65536*65536"};
        int[] thrown = {5, 0, 0, 0, 0, 5, 5, 0, 5, 0};
        for (int i = 0; i < worked.length; i++) {
            b.put(1700 + i, "check " + worked[i] + ":5;");
        }
        b.put(1720, "check 1:1;check 0:800;check 0:2;");
        b.put(1721, "check 1/0:5;");
        b.issue();
        for (int i = 0; i < worked.length; i++) {
            Bench.due(thrown[i], b.need(1700 + i), "check of " + worked[i]);
        }
        Bench.due(800, b.need(1720), "the first that is 0");
        Bench.due(801, b.need(1721), "thrown ahead of its number");
    }

    private static void tries(Bench b) {
        b.put(1700, "try{table a 2=3;check 0:1;table c 1=4;check 0:2;}else{table d 1=a[1]+1;}table e 1=5;");
        b.put(1701, "try{table a 1=3;}else{table b 1=4;}table c 1=5;");
        b.put(1702, "try{check 0:1;}else{check 0:2;}table c 1=5;");
        b.put(1703, "try{try{check 0:1;}else{check 0:2;}table a 1=1;}else{table b 1=2;}");
        b.put(1704, "try{try{check 0:1;}else{table c 1=3;}table a 1=1;}else{table b 1=2;}");
        b.put(1705, "try{}else{table a 1=1;}try{check 0:1;}else{}table b 1=2;");
        b.put(1706, "try{check 0:1;}else{try{check 0:2;}else{table a 1=1;}table b 1=2;}");
        b.put(1707, "try{check 0:1;}else{check nix:2;}");
        b.put(1708, "table a 1=7+10*(1709.b[0]+100*1709.b[1]);");
        b.put(1709, "try{check 5+6*(7+1/0):1;}else{table b 2=at+3;}");
        b.issue();
        Bench.due(0, b.need(1700), "caught");
        long[] want = {3, 0, 4, 5};
        for (int k = 0; k < 4; k++) {
            Bench.due(want[k], b.entry(1700, k, 0), "table " + k);
        }
        Bench.due(0, b.need(1701), "nothing to catch");
        Bench.due(0, b.entry(1701, 1, 0), "else is not done");
        Bench.due(5, b.entry(1701, 2, 0), "what stands behind is");
        Bench.due(2, b.need(1702), "thrown in else");
        Bench.due(0, b.entry(1702, 0, 0), "what stands behind is not done");
        Bench.due(0, b.need(1703), "thrown in an inner else");
        Bench.due(0, b.entry(1703, 0, 0), "no further one");
        Bench.due(2, b.entry(1703, 1, 0), "the outer else");
        Bench.due(0, b.need(1704), "caught by the inner one");
        Bench.due(3, b.entry(1704, 0, 0), "the inner else");
        Bench.due(1, b.entry(1704, 1, 0), "the outer one goes on");
        Bench.due(0, b.entry(1704, 2, 0), "its else is not done");
        Bench.due(0, b.need(1705), "empty ones");
        Bench.due(0, b.entry(1705, 0, 0), "an empty try throws nothing");
        Bench.due(2, b.entry(1705, 1, 0), "an empty else does nothing");
        Bench.due(0, b.need(1706), "a try in else");
        Bench.due(1, b.entry(1706, 0, 0), "its else");
        Bench.due(2, b.entry(1706, 1, 0), "and what stands behind it");
        Bench.due(802, b.need(1707), "thrown by the first word of else");
        Bench.due(0, b.need(1708), "caught in another start");
        Bench.due(7 + 10 * (3 + 100 * 4), b.entry(1708, 0, 0), "what was worked ahead of that start stays");
    }

    private static void allIsCaught(Bench b) {
        List<String> throwing = List.of("0", "1/0", "1%0", "nix", "n", "1728.k", "nix[0]", "1728.t[0]", "1702.t[0]", "1702.t[0]", "1703.t[0]",
            "1704.t[2]", "1704.nix[0]");
        b.put(1702, "check 0:800;");
        b.put(1703, "under 1702;");
        b.put(1704, "table t 2=1;");
        for (int i = 0; i < throwing.size(); i++) {
            b.put(1710 + i, "const n=n;try{check " + throwing.get(i) + ":1;table a 1=1;}else{table b 1=2;}");
        }
        b.issue();
        for (int i = 0; i < throwing.size(); i++) {
            Bench.due(0, b.need(1710 + i), "caught: " + throwing.get(i));
            Bench.due(0, b.entry(1710 + i, 0, 0), "no further one: " + throwing.get(i));
            Bench.due(2, b.entry(1710 + i, 1, 0), "else: " + throwing.get(i));
        }
    }

    private static void around(Bench b) {
        work(Long.MIN_VALUE, LEAST);
        work(Long.MAX_VALUE, MOST);
        work(Long.MIN_VALUE, MOST + "+1");
        work(Long.MAX_VALUE, LEAST + "-1");
        work(Long.MIN_VALUE, "-" + LEAST);
        work(-Long.MAX_VALUE, "-" + MOST);
        work(Long.MIN_VALUE, LEAST + "*-1");
        work(Long.MIN_VALUE, LEAST + "/-1");
        work(0, LEAST + "%-1");
        work(-2, MOST + "*2");
        work(1, MOST + "*" + MOST);
        work(0, LEAST + "+" + LEAST);
        work(0, "65536*65536*65536*65536");
        work(4294967296L, "65536*65536");
        work(999999999L * 999999999L, "999999999*999999999");
        b.put(1700, "const m=1000000;const t=m*m*1000;table a 1=t*10;table b 1=t*9223;table c 1=t*9224;table d 1=t+t;");
        b.issue();
        b.need(1700);
        Bench.due(10000000000000000L, b.entry(1700, 0, 0), "a const's limit is not that of a table");
        Bench.due(9223000000000000000L, b.entry(1700, 1, 0), "within 64 bits");
        Bench.due(1000000000000000L * 9224, b.entry(1700, 2, 0), "around");
        Bench.due(2000000000000000L, b.entry(1700, 3, 0), "twice the limit");
    }

    private static void comparisons(Bench b) {
        String[] signs = {"=", "<", ">"};
        String[] numbers = {LEAST, "-1", "0", "1", "k", MOST};
        for (int i = 0; i < numbers.length; i++) {
            for (int j = 0; j < numbers.length; j++) {
                boolean[] want = {i == j, i < j, i > j};
                for (int s = 0; s < 3; s++) {
                    work(want[s] ? 1 : 0, numbers[i] + signs[s] + numbers[j]);
                }
            }
        }
        b.put(1700, "table t 1=1+(2=2)+(3<4)+(5>4);table u 1=2+3=1+4;");
        b.issue();
        b.need(1700);
        Bench.due(4, b.entry(1700, 0, 0), "they are numbers");
        Bench.due(1, b.entry(1700, 1, 0), "sums come first");
    }

    private static void choices(Bench b) {
        work(2, "1?2:3");
        work(3, "0?2:3");
        work(2, "-1?2:3");
        work(2, LEAST + "?2:3");
        work(2, "65536*65536?2:3");
        work(3, "65536*65536*65536*65536?2:3");
        work(2, "1?2:1/0");
        work(3, "0?1/0:3");
        work(-801, "1/0?2:3");
        work(4, "0?2:0?3:4");
        b.put(1700, "table t 1=0?1701.u[0]:1?5:1702.u[0];table v 3=at=1?1703.u[0]:at;");
        b.put(1701, "table u 1=6;");
        b.put(1702, "table u 1=7;");
        b.put(1703, "table u 1=8;");
        b.issue();
        Bench.due(0, b.need(1700), "need");
        Bench.due(5, b.entry(1700, 0, 0), "the middle one");
        Bench.due(1, b.state(1701, 0), "not worked, so not needed");
        Bench.due(1, b.state(1702, 0), "not worked, so not needed");
        Bench.due(2, b.state(1703, 0), "worked for one entry");
        Bench.due(8, b.entry(1700, 1, 1), "that one");
        Bench.due(2, b.entry(1700, 1, 2), "the next");
    }

    private static void fromTheLeft(Bench b) {
        for (String sign : List.of("+", "-", "*", "/", "%", "=", "<", ">")) {
            work(-801, "1/0" + sign + "nix");
            work(-802, "nix" + sign + "1/0");
            work(-802, "nix" + sign + "t[9]");
            work(-805, "t[9]" + sign + "nix");
        }
        work(-1, "1-1-1");
        work(2, "8/2/2");
        work(1, "7%4%2");
        work(8, "8/2*2");
        work(0, "2*3/8");
        b.put(1700, "table t 1=1703.u[0]+1701.u[0]*1702.u[0]-1705.u[1704.u[0]];");
        for (int year = 1701; year <= 1705; year++) {
            b.put(year, "table u 1=0;");
        }
        b.issue();
        b.need(1700);
        int[] row = {1700, 1703, 1701, 1702, 1704, 1705};
        for (int i = 0; i < row.length; i++) {
            Bench.due(row[i], b.started(i), "start " + i);
        }
    }

    private static void divisions(Bench b) {
        int[][] all = {{7, 2}, {-7, 2}, {7, -2}, {-7, -2}, {6, 2}, {-6, 2}, {1, 2}, {-1, 2}, {0, 3}, {0, -3}, {5, 5}, {5, 6}, {-5, 6}};
        int[] quotients = {3, -3, -3, 3, 3, -3, 0, 0, 0, 0, 1, 0, 0};
        int[] rests = {1, -1, 1, -1, 0, 0, 1, -1, 0, 0, 0, 5, -5};
        for (int i = 0; i < all.length; i++) {
            work(quotients[i], all[i][0] + "/" + all[i][1]);
            work(rests[i], all[i][0] + "%" + all[i][1]);
        }
        b.put(1700, "table t 1=" + LEAST + "/2;table u 1=" + LEAST + "%10;table v 1=" + MOST + "/" + LEAST + ";");
        b.issue();
        b.need(1700);
        Bench.due(-4611686018427387904L, b.entry(1700, 0, 0), "the least by 2");
        Bench.due(-8, b.entry(1700, 1, 0), "its rest by 10");
        Bench.due(0, b.entry(1700, 2, 0), "towards 0");
    }

    private static void byZero(Bench b) {
        for (String sign : List.of("/", "%")) {
            for (String left : List.of("1", "0", "-1", LEAST)) {
                work(-801, left + sign + "0");
                work(-801, left + sign + "(k-5)");
                work(-801, left + sign + "-0");
            }
            work(-801, "1" + sign + "(65536*65536*65536*65536)");
            work(-801, "0?1:2" + sign + "0");
        }
        work(1, "1/1");
        work(-1, "1/-1");
        work(0, "1%-1");
        work(0, "0/1");
        b.put(1700, "table t 2=5/(1-at);");
        b.issue();
        Bench.due(801, b.need(1700), "at entry 1");
        Bench.due(801, b.state(1700, 2), "withdrawn by it");
        Bench.due(5, b.entry(1700, 0, 0), "entry 0");
    }

    private static void consts(Bench b) {
        b.put(1700, "const a=1;const b=2;table t 1=a*100+b;rule a*100+b;");
        b.put(1701, "under 1700;const a=3;table u 1=a*100+b;");
        b.put(1702, "under 1701;const b=4;table v 1=a*100+b;");
        b.put(1703, "under 1702;");
        b.issue();
        Bench.due(0, b.need(1703), "need");
        Bench.due(102, b.entry(1700, 0, 0), "both stand there");
        Bench.due(302, b.entry(1701, 0, 0), "a stands there");
        Bench.due(304, b.entry(1702, 0, 0), "b stands there, a in the next");
        b.voyage(0, 0);
        b.lock(0, 0, 1703, 1);
        Bench.due(0, b.bill(0), "bill");
        Bench.due(102, b.line(0, 1), "the rule's consts are those of the sheet in which it stands");
    }

    private static void noConst(Bench b) {
        work(-802, "nix");
        work(-802, "n");
        work(5, "k");
        for (int year = 1700; year < 1729; year++) {
            b.put(year, "under " + (year + 1) + ";" + (year == 1700 ? "table r 1=z;" : ""));
        }
        b.put(1729, "const z=12;");
        b.issue();
        Bench.due(0, b.need(1700), "the thirtieth of a chain");
        Bench.due(12, b.entry(1700, 0, 0), "its value");
        b.put(1729, "under 1700;const z=z;");
        b.issue();
        Bench.due(802, b.need(1700), "the thirtieth has no value");
        b.put(1729, "under 1700;table z 1=1;");
        b.issue();
        Bench.due(802, b.need(1700), "none in a round of thirty");
        Bench.due(802, b.state(1700, 2), "thrown");
        Bench.due(2, b.state(1701, 0), "the others have started");
    }

    private static void indexFirst(Bench b) {
        work(-801, "nix[1/0]");
        work(-802, "nix[9]");
        work(-802, "nix[nix]");
        work(-805, "t[t[9]]");
        work(11, "t[t[0]]");
        b.put(1700, "check 1701.t[1702.u[0]]:1;");
        b.put(1701, "check 0:11;table t 1=1;");
        b.put(1702, "check 0:22;table u 1=0;");
        b.put(1703, "under 1704;try{check w[1705.v[0]]:1;}else{}");
        b.put(1704, "table w 1=1;");
        b.put(1705, "table v 1=9;");
        b.issue();
        Bench.due(22, b.need(1700), "the index throws first");
        Bench.due(1, b.state(1701, 0), "the other is not needed");
        Bench.due(0, b.need(1703), "need");
        Bench.due(2, b.state(1705, 0), "the index was worked");
    }

    private static void tablesOfTheOlder(Bench b) {
        b.put(1700, "table t 1=1;table u 1=2;table v 1=3;");
        b.put(1701, "under 1700;table u 1=20;const v=1;");
        b.put(1702, "under 1701;table w 1=t[0]*10000+u[0]*100+v[0];");
        b.put(1703, "under 1701;table u 1=u[0]+7;");
        b.issue();
        Bench.due(0, b.need(1702), "need");
        Bench.due(12003, b.entry(1702, 0, 0), "t and v of 1700, u of 1701");
        Bench.due(0, b.need(1703), "need");
        Bench.due(7, b.entry(1703, 0, 0), "its own first, which was 0");
    }

    private static void noTable(Bench b) {
        for (int year = 1700; year < 1729; year++) {
            b.put(year, "under " + (year + 1) + ";" + (year == 1700 ? "table r 1=z[0];" : ""));
        }
        b.put(1729, "table z 1=12;");
        b.issue();
        Bench.due(0, b.need(1700), "the thirtieth of a chain, this one the first");
        Bench.due(12, b.entry(1700, 0, 0), "its entry");
        b.put(1729, "under 1700;const z=12;");
        b.issue();
        Bench.due(802, b.need(1700), "none in a round of thirty");
        Bench.due(2, b.state(1729, 0), "the others have started");
        b.put(1729, "under 1700;table z 1=13;");
        b.issue();
        Bench.due(0, b.need(1700), "the thirtieth of a round");
        Bench.due(13, b.entry(1700, 0, 0), "its entry");
        work(-802, "nix[0]");
        work(1, "t[0]");
    }

    private static void holderIsNeeded(Bench b) {
        b.put(1700, "table t 1=1701.s[0];check 0:9;rule 5;");
        b.put(1701, "under 1700;table s 1=3;rule t[0];");
        b.put(1702, "rule 1701.t[0];");
        b.put(1703, "rule 1701.s[0];");
        b.put(1704, "check 1:1;table q 1=q[0]+1;");
        b.issue();
        Bench.due(9, b.need(1700), "withdrawn behind the start of 1701");
        Bench.due(2, b.state(1701, 0), "1701 has started");
        for (int i = 0; i < 3; i++) {
            b.voyage(0, 0);
            b.lock(i, 0, 1701 + i, 1);
        }
        Bench.due(804, b.bill(0), "the year of t is needed, which is not this one");
        Bench.due(804, b.bill(1), "from a named year on, too");
        Bench.due(0, b.bill(2), "1701's own is there");
        Bench.due(3, b.line(2, 0), "3");
        Bench.due(0, b.need(1704), "this one is not needed");
        Bench.due(1, b.entry(1704, 0, 0), "its own table while it starts");
    }

    private static void noEntry(Bench b) {
        work(1, "t[0]");
        work(21, "t[2]");
        work(-805, "t[3]");
        work(-805, "t[-1]");
        work(-805, "t[12]");
        work(-805, "t[" + LEAST + "]");
        work(-805, "t[" + MOST + "]");
        work(-805, "t[65536*65536]");
        work(-805, "t[65536*65536+2]");
        work(-805, "t[-65536*65536]");
        work(1, "t[65536*65536*65536*65536]");
        work(0, "r[0]");
        work(-805, "r[1]");
        b.put(1700, "table a 12=at;table b 1=a[11];table c 1=a[12];");
        b.put(1701, "check 1702.a[11]:1;check 1702.b[1]:1;");
        b.put(1702, "table a 12=at;table b 1=1;table c 12=5;");
        b.put(1703, "check 1702.c[11]:1;check 1702.a[-1]:1;");
        b.issue();
        Bench.due(805, b.need(1700), "the thirteenth entry");
        Bench.due(11, b.entry(1700, 1, 0), "the twelfth");
        Bench.due(805, b.need(1701), "the second of one");
        Bench.due(805, b.need(1703), "below the first");
        Bench.due(2, b.state(1702, 0), "the year was needed");
    }

    private static void entryAsItIs(Bench b) {
        b.put(1700, "table t 3=at=2?1701.u[0]:at+4;");
        b.put(1701, "table u 1=1700.t[0]*100+1700.t[1]*10+1700.t[2];");
        b.issue();
        Bench.due(0, b.need(1700), "need");
        Bench.due(450, b.entry(1701, 0, 0), "two entries are there, the third is not");
        Bench.due(450, b.entry(1700, 0, 2), "now it is");
        b.put(1701, "table u 1=1700.t[0]*100+1700.t[1]*10+1700.t[2];");
        b.issue();
        Bench.due(0, b.need(1701), "the other way round");
        Bench.due(450, b.entry(1701, 0, 0), "4 * 100 + 5 * 10 + 0, as u was 0");
        Bench.due(0, b.entry(1700, 0, 2), "u was 0");
    }

    private static void constsOfYears(Bench b) {
        b.put(1700, "const a=1;check 0:5;");
        b.put(1701, "under 1700;const b=2;");
        b.put(1702, "table t 1=1701.a*10+1701.b;");
        b.put(1703, "check 1701.nix:1;");
        b.put(1704, "check 1729.a:1;");
        b.put(1705, "const c=1;check 1701.c:1;");
        b.put(1706, "const n=n;");
        b.put(1707, "check 1706.n:1;");
        b.issue();
        Bench.due(0, b.need(1702), "need");
        Bench.due(12, b.entry(1702, 0, 0), "along the chain from 1701 on");
        Bench.due(1, b.state(1701, 0), "no start of 1701");
        Bench.due(1, b.state(1700, 0), "no start of 1700");
        Bench.due(802, b.need(1703), "none");
        Bench.due(802, b.need(1704), "no class: 802, not 803");
        Bench.due(802, b.need(1705), "from that year on, not from this one");
        Bench.due(802, b.need(1707), "no value");
        b.need(1700);
        b.put(1702, "table t 1=1701.a*10+1701.b;");
        b.issue();
        Bench.due(0, b.need(1702), "consts of a withdrawn class are read");
    }

    private static void tablesOfYears(Bench b) {
        b.put(1700, "table t 1=4;");
        b.put(1701, "under 1700;table u 1=5;");
        b.put(1702, "table t 1=9;table r 1=1701.t[0]*10+1701.u[0];");
        b.put(1703, "check 1704.t[1/0]:1;");
        b.put(1704, "check 0:6;");
        b.put(1705, "check 1704.nix[0]:1;");
        b.put(1706, "table w 1=1;check 1701.w[0]:1;");
        b.put(1707, "check 1701.t[1]:1;");
        b.put(1708, "check 1729.t[0]:1;");
        b.issue();
        Bench.due(0, b.need(1702), "need");
        Bench.due(45, b.entry(1702, 1, 0), "from 1701 on, not from this one");
        Bench.due(1701, b.started(1), "1701 is needed first");
        Bench.due(801, b.need(1703), "the index first");
        Bench.due(1, b.state(1704, 0), "1704 is not needed yet");
        Bench.due(6, b.need(1705), "then the year, ahead of the table");
        Bench.due(802, b.need(1706), "then the table, not of this one");
        Bench.due(805, b.need(1707), "then the entry");
        Bench.due(803, b.need(1708), "no class: 803");
    }

    private static void constsAndTables(Bench b) {
        work(-802, "k[0]");
        work(-802, "t");
        work(5, "k");
        work(1, "t[0]");
        b.put(1700, "const a=1;table b 1=2;");
        b.put(1701, "under 1700;table a 1=3;const b=4;table r 1=a*1000+a[0]*100+b*10+b[0];");
        b.put(1702, "check 1700.b:1;");
        b.put(1703, "check 1700.a[0]:1;");
        b.issue();
        Bench.due(0, b.need(1701), "need");
        Bench.due(1342, b.entry(1701, 1, 0), "each of its own kind");
        Bench.due(802, b.need(1702), "a table is no const");
        Bench.due(802, b.need(1703), "a const is no table");
        Bench.due(2, b.state(1700, 0), "but the year was needed");
    }

    private static void halves(Bench b) {
        b.put(1700, "table t 2=t[0]+1701.u[at]+1;table s 1=t[1];");
        b.put(1701, "under 1700;table u 2=t[at]+1700.t[0]+u[0]+10;try{check t[2]:1;}else{}check 1700.t[0]=0:5;");
        b.put(1702, "table v 1=1700.t[0]+1701.u[0]+1701.t[1];");
        b.issue();
        Bench.due(0, b.need(1700), "need");
        Bench.due(5, b.state(1700, 3), "two an entry by 1701, and one by its check; none by its own steps, none where there is no entry");
        Bench.due(0, b.state(1701, 3), "none of 1701");
        Bench.due(0, b.need(1702), "need");
        Bench.due(5, b.state(1700, 3), "none of a class that has started");
        b.entry(1700, 0, 0);
        Bench.due(5, b.state(1700, 3), "entry() reads no half");
        b.put(1700, "table t 2=1701.u[0];");
        b.issue();
        Bench.due(0, b.state(1700, 3), "none of the new class");
        Bench.due(0, b.need(1701), "1701 is under 1700, whose start needs 1701");
        Bench.due(2, b.state(1701, 3), "two of 1701 while it starts");
        Bench.due(0, b.state(1700, 3), "none of 1700");
        b.put(1703, "table t 1=8;check 1704.x[0]:1;");
        b.put(1704, "table x 1=1703.t[0];check 0:3;");
        b.issue();
        Bench.due(3, b.need(1703), "withdrawn");
        Bench.due(1, b.state(1703, 3), "its halves stay told");
        Bench.due(8, b.entry(1704, 0, 0), "the half");
    }
}
