/** Promises 11 to 13: entry, need, started, with term 3. */
public final class StartTest {
    private static final long NO = Bench.NO_VALUE;

    public static void main(String[] args) {
        tables();
        arithmetic();
        around();
        choices();
        order();
        checks();
        tries();
        triesInOneAnother();
        caughtInAnotherStart();
        constsInSteps();
        tablesAlongChains();
        namedTables();
        orderOfThrowing();
        halves();
        halvesOfTheOlder();
        withdrawn();
        withdrawnWhileOthersStarted();
        rowOfStarts();
        wrongArguments();
        Bench.close("StartTest");
    }

    /** The first entry of a table of one entry, worked of a text. */
    private static long worked(String text) {
        Bench b = new Bench();
        b.put(1700, "const k=5;const none=none;table t 3=at*10+1;table r 1=" + text + ";");
        b.issue();
        int thrown = b.need(1700);
        return thrown == 0 ? b.entry(1700, 1, 0) : -thrown;
    }

    private static void work(long want, String text) {
        Bench.due(want, worked(text), text);
    }

    private static void tables() {
        Bench b = new Bench();
        b.put(1700, "table t 12=at*at;table u 1=t[11];table v 3=v[0]+v[1]+1;");
        Bench.due(NO, b.entry(1700, 0, 0), "no class");
        b.issue();
        Bench.due(0, b.entry(1700, 0, 11), "0 ahead of the start");
        Bench.due(1, b.state(1700, 0), "entry() needs nothing");
        Bench.due(0, b.need(1700), "need");
        for (int i = 0; i < 12; i++) {
            Bench.due((long) i * i, b.entry(1700, 0, i), "entry " + i);
        }
        Bench.due(NO, b.entry(1700, 0, 12), "no entry");
        Bench.due(121, b.entry(1700, 1, 0), "t was built ahead of u");
        Bench.due(1, b.entry(1700, 2, 0), "own entries are 0 ahead");
        Bench.due(2, b.entry(1700, 2, 1), "and as they are");
        Bench.due(4, b.entry(1700, 2, 2), "and as they are");
        Bench.due(0, b.state(1700, 3), "its own steps read no halves");
        b.put(1700, "table u 1=t[2];table t 3=at+1;");
        b.issue();
        b.need(1700);
        Bench.due(0, b.entry(1700, 0, 0), "t was not built yet");
        Bench.due(3, b.entry(1700, 1, 2), "it is now");
    }

    private static void arithmetic() {
        work(7, "1+2*3");
        work(9, "(1+2)*3");
        work(-4, "1-2-3");
        work(-3, "-7/2");
        work(-1, "-7%2");
        work(1, "7%-2");
        work(-3, "7/-2");
        work(2, "20/3/3");
        work(4, "14%10%10");
        work(6, "7/2*2");
        work(-801, "1/0");
        work(-801, "1%0");
        work(-801, "0/(k-5)");
        work(1, "1=1");
        work(0, "1=2");
        work(1, "1<2");
        work(0, "2<2");
        work(1, "3>2");
        work(0, "2>2");
        work(1, "-1<0");
        work(1, "1+1=2");
        work(3, "2-(0-1)");
        work(3, "2--1");
        work(-2, "-(2)");
        work(-2, "-2*1");
        work(5, "k");
        work(-25, "-k*k");
        work(-11, "-t[1]");
    }

    private static void around() {
        String big = "999999999*999999999*9";
        work(999999999L * 999999999L * 9, big);
        work(999999999L * 999999999L * 9 * 9, big + "*9");
        work(999999999L * 999999999L * 9 + 999999999L * 999999999L, big + "+999999999*999999999");
        work(-805, "t[-1]");
        work(-805, "t[3]");
        work(-805, "t[65536*65536]");
        work(-805, "t[65536*65536+1]");
        work(1, "t[65536*65536*65536*65536]");
        work(1L << 30, "536870912*2");
        work(0, "65536*65536*65536*65536");
        work(Long.MIN_VALUE, "65536*65536*65536*32768");
        work(Long.MIN_VALUE, "-(65536*65536*65536*32768)");
        work(Long.MIN_VALUE, "65536*65536*65536*32768/-1");
        work(0, "65536*65536*65536*32768%-1");
        work(Long.MAX_VALUE, "65536*65536*65536*32768-1");
        work(1, "65536*65536*65536*32768<0");
        work(0, "65536*65536*65536*65536=1");
        // A number of a start that is the very answer for no value is a number like any other.
        work(NO, "-2*1000000*1000000*1000");
    }

    private static void choices() {
        work(2, "1?2:3");
        work(3, "0?2:3");
        work(2, "-1?2:3");
        work(2, "1?2:1/0");
        work(3, "0?1/0:3");
        work(-801, "1/0?2:3");
        work(4, "0?2:0?3:4");
        work(3, "1?0?2:3:4");
        work(2, "1=1?2:3");
        work(1, "t[1?0:2]");
        work(7, "(0?1:2)+5");
        work(6, "0?1:1+5");
    }

    private static void order() {
        work(-801, "1/0+none");
        work(-802, "none+1/0");
        work(-802, "none<1/0");
        work(-801, "t[1/0]+none");
        work(-801, "1/0*t[9]");
        work(-805, "t[9]/0");
        work(-801, "nix[1/0]");
        work(-802, "nix[0]");
        work(-802, "nix");
        work(-802, "k[0]");
        work(-802, "t");
        work(-802, "none");
        work(-803, "1729.t[0]");
        work(-801, "1729.t[1/0]");
        work(-802, "1729.k");
    }

    private static void checks() {
        Bench b = new Bench();
        b.put(1700, "check 1:1;check -1:2;check 0:800;check 0:3;");
        b.put(1701, "check 2-2:1;");
        b.put(1702, "check 1=1:1;");
        b.issue();
        Bench.due(800, b.need(1700), "the first that is 0");
        Bench.due(3, b.state(1700, 0), "withdrawn");
        Bench.due(800, b.state(1700, 2), "what was thrown");
        Bench.due(804, b.need(1700), "withdrawn from then on");
        Bench.due(800, b.state(1700, 2), "what was thrown stays");
        Bench.due(1, b.need(1701), "thrown 1");
        Bench.due(0, b.need(1702), "nothing thrown");
        Bench.due(0, b.need(1702), "nor the next time");
        Bench.due(3, b.count(1), "three starts");
    }

    private static void tries() {
        Bench b = new Bench();
        b.put(1700, "table a 1=1;try{table b 2=7;check 0:9;table c 1=3;}else{table d 1=b[1]+1;}table e 1=5;");
        b.put(1701, "try{table a 3=6/(1-at);}else{table b 1=a[0];}");
        b.put(1702, "try{check 1:1;}else{table a 1=1;}table b 1=2;");
        b.put(1703, "try{check 0:1;}else{check 0:2;}");
        b.put(1704, "try{check 1729.t[0]:1;}else{}");
        b.put(1705, "try{check 0:1;}else{check nix:2;}");
        b.issue();
        Bench.due(0, b.need(1700), "caught");
        Bench.due(7, b.entry(1700, 1, 1), "what was built stays");
        Bench.due(0, b.entry(1700, 2, 0), "no further one is done");
        Bench.due(8, b.entry(1700, 3, 0), "else is done");
        Bench.due(5, b.entry(1700, 4, 0), "and what stands behind");
        Bench.due(2, b.state(1700, 0), "started");
        Bench.due(0, b.state(1700, 2), "nothing was thrown out of it");
        Bench.due(0, b.need(1701), "caught within a table");
        Bench.due(6, b.entry(1701, 0, 0), "entries stay");
        Bench.due(0, b.entry(1701, 0, 1), "the others are 0");
        Bench.due(6, b.entry(1701, 1, 0), "else");
        Bench.due(0, b.need(1702), "nothing to catch");
        Bench.due(0, b.entry(1702, 0, 0), "else is not done");
        Bench.due(2, b.entry(1702, 1, 0), "behind the try");
        Bench.due(2, b.need(1703), "thrown in else");
        Bench.due(3, b.state(1703, 0), "withdrawn");
        Bench.due(0, b.need(1704), "803 is caught, too");
        Bench.due(802, b.need(1705), "thrown by the first word of else");
    }

    private static void triesInOneAnother() {
        Bench b = new Bench();
        b.put(1700, "try{try{check 0:1;}else{table a 1=1;check 0:2;}table b 1=1;}else{table c 1=1;}");
        b.put(1701, "try{try{try{check 0:1;}else{}table a 1=1;check 0:2;}else{table b 1=1;}table c 1=1;}else{table d 1=1;}");
        b.put(1702, "try{}else{try{}else{}}try{check 0:5;}else{try{check 0:1;}else{table a 1=4;}}check 0:6;");
        b.put(1703, "try{check 0:1;}else{try{check 0:2;}else{check 0:3;}}");
        b.issue();
        Bench.due(0, b.need(1700), "thrown in the inner else");
        Bench.due(1, b.entry(1700, 0, 0), "inner else");
        Bench.due(0, b.entry(1700, 1, 0), "not reached");
        Bench.due(1, b.entry(1700, 2, 0), "outer else");
        Bench.due(0, b.need(1701), "three");
        Bench.due(1, b.entry(1701, 0, 0), "behind the inner one");
        Bench.due(1, b.entry(1701, 1, 0), "the middle one's else");
        Bench.due(1, b.entry(1701, 2, 0), "goes on behind it");
        Bench.due(0, b.entry(1701, 3, 0), "the outer one's else");
        Bench.due(6, b.need(1702), "a check behind all tries");
        Bench.due(4, b.entry(1702, 0, 0), "what was built stays in a withdrawn class");
        Bench.due(3, b.need(1703), "out of the last else");
    }

    private static void caughtInAnotherStart() {
        Bench b = new Bench();
        b.put(1700, "table t 2=5+10*1701.u[at]+1702.u[1];");
        b.put(1701, "try{check 7+1/0:1;}else{table u 2=3+at;}");
        b.put(1702, "try{check 7+8*1703.u[0]:1;}else{table u 2=100;}");
        b.put(1703, "check 1-(2<3):6;");
        b.issue();
        Bench.due(0, b.need(1700), "need");
        Bench.due(135, b.entry(1700, 0, 0), "what was worked ahead of the other starts stays");
        Bench.due(145, b.entry(1700, 0, 1), "5 + 40 + 100");
        Bench.due(6, b.state(1703, 2), "1703 is withdrawn");
    }

    private static void constsInSteps() {
        Bench b = new Bench();
        b.put(1700, "const a=1;const b=2;check 0:4;");
        b.put(1701, "under 1702;const a=10;table t 1=a+b;table u 1=1700.a+1700.b*100;");
        b.put(1702, "const b=20;table s 1=b;");
        b.put(1703, "table t 1=1701.b;");
        b.put(1704, "const x=x;table t 1=1701.nix;");
        b.put(1705, "under 1700;const a=a;try{check a:1;}else{table t 1=b;}");
        b.issue();
        Bench.due(0, b.need(1701), "need");
        Bench.due(30, b.entry(1701, 0, 0), "own and older const");
        Bench.due(201, b.entry(1701, 1, 0), "consts of a named year");
        Bench.due(1, b.state(1700, 0), "reading a const needs nothing");
        Bench.due(1701, b.started(0), "1701 first");
        Bench.due(1702, b.started(1), "then the one that it is under");
        Bench.due(2, b.count(1), "no other");
        Bench.due(0, b.need(1703), "const found through a named year");
        Bench.due(20, b.entry(1703, 0, 0), "b of 1702");
        Bench.due(802, b.need(1704), "no such const");
        Bench.due(4, b.need(1700), "withdrawn");
        Bench.due(4, b.state(1700, 2), "by its check");
        Bench.due(804, b.need(1705), "under a withdrawn one");
        b.put(1700, "const a=1;const b=2;");
        b.issue();
        Bench.due(0, b.need(1705), "need");
        Bench.due(2, b.entry(1705, 0, 0), "the nearest a has no value: 802, caught");
    }

    private static void tablesAlongChains() {
        Bench b = new Bench();
        b.put(1700, "table t 2=at+1;table w 1=9;");
        b.put(1701, "under 1700;const t=4;table u 2=t[at]*10;");
        b.put(1702, "under 1701;table v 2=t[at]+u[at]+w[0]*100;table w 1=w[0]+1;");
        b.issue();
        Bench.due(0, b.need(1702), "need");
        Bench.due(10, b.entry(1701, 0, 0), "a const is no table");
        Bench.due(11, b.entry(1702, 0, 0), "w is its own, not built yet");
        Bench.due(22, b.entry(1702, 0, 1), "t and u of the older");
        Bench.due(1, b.entry(1702, 1, 0), "its own w was 0");
        Bench.due(1702, b.started(0), "row");
        Bench.due(1701, b.started(1), "row");
        Bench.due(1700, b.started(2), "row");
        for (int year = 1700; year < 1729; year++) {
            b.put(year, "under " + (year + 1) + ";" + (year == 1700 ? "table r 1=last[0];" : ""));
        }
        b.put(1729, "table last 1=12;");
        b.issue();
        Bench.due(0, b.need(1700), "a chain of thirty");
        Bench.due(12, b.entry(1700, 0, 0), "the thirtieth");
        b.put(1729, "under 1700;");
        b.issue();
        Bench.due(802, b.need(1700), "none in a round of thirty");
        Bench.due(3, b.state(1700, 0), "1700 is withdrawn");
        Bench.due(2, b.state(1729, 0), "the others started while it was starting");
    }

    private static void namedTables() {
        Bench b = new Bench();
        b.put(1700, "table t 1=5;");
        b.put(1701, "under 1700;table u 1=1;");
        b.put(1702, "table r 1=1701.t[0];");
        b.put(1703, "check 1701.t[1]:1;");
        b.put(1704, "check 1701.x[0]:1;");
        b.put(1705, "try{check 1706.t[0]:1;}else{table z 1=1701.t[0]+1;}");
        b.put(1706, "under 1700;check 0:44;");
        b.issue();
        Bench.due(0, b.need(1702), "found through 1701");
        Bench.due(5, b.entry(1702, 0, 0), "t of 1700");
        Bench.due(2, b.state(1701, 0), "1701 was needed");
        Bench.due(1701, b.started(1), "ahead of 1700");
        Bench.due(1700, b.started(2), "then 1700");
        Bench.due(805, b.need(1703), "no such entry");
        Bench.due(802, b.need(1704), "no such table");
        Bench.due(0, b.need(1705), "1706 is needed though t is of 1700");
        Bench.due(6, b.entry(1705, 0, 0), "else");
        Bench.due(44, b.state(1706, 2), "1706 was withdrawn");
    }

    private static void orderOfThrowing() {
        Bench b = new Bench();
        b.put(1700, "check 0:5;table t 1=1;");
        b.put(1701, "check 1700.x[9]:1;");
        b.put(1702, "under 1700;check 1/0:1;");
        b.put(1703, "check 1704.x[9]:1;");
        b.put(1704, "table t 1=1;");
        b.put(1705, "check 1704.t[9]:1;");
        b.issue();
        Bench.due(5, b.need(1701), "the year is needed ahead of the table");
        Bench.due(804, b.need(1702), "the older one ahead of the steps");
        Bench.due(802, b.need(1703), "the table ahead of the entry");
        Bench.due(805, b.need(1705), "the entry last");
    }

    private static void halves() {
        Bench b = new Bench();
        b.put(1700, "table t 3=1701.u[0]+1701.u[1]+at+1;");
        b.put(1701, "table u 2=1700.t[0]+1700.t[1]+1700.t[at]+10;");
        b.issue();
        Bench.due(0, b.need(1700), "need");
        Bench.due(6, b.state(1700, 3), "three halves an entry");
        Bench.due(0, b.state(1701, 3), "1701 was started");
        Bench.due(10, b.entry(1701, 0, 0), "all halves were 0");
        Bench.due(21, b.entry(1700, 0, 0), "of the started one");
        Bench.due(23, b.entry(1700, 0, 2), "of the started one");
        Bench.due(0, b.need(1701), "nothing more");
        Bench.due(6, b.state(1700, 3), "no more halves");
        b.put(1700, "table t 3=1701.u[0];");
        b.issue();
        Bench.due(0, b.state(1700, 3), "a new class");
        b.put(1702, "table a 2=at+5;table b 1=1703.c[0];");
        b.put(1703, "try{check 1702.a[7]:3;}else{}table c 1=1702.a[1]+1702.b[0];");
        b.issue();
        Bench.due(0, b.need(1702), "need");
        Bench.due(2, b.state(1702, 3), "an entry that there is not is no half");
        Bench.due(6, b.entry(1702, 1, 0), "a was built");
    }

    private static void halvesOfTheOlder() {
        Bench b = new Bench();
        b.put(1700, "table t 2=at+3;table u 1=1701.v[0];");
        b.put(1701, "under 1700;table v 1=t[1]+1702.w[0];");
        b.put(1702, "under 1701;table w 1=1701.t[0]+t[0];");
        b.issue();
        Bench.due(0, b.need(1700), "need");
        Bench.due(3, b.state(1700, 3), "of the older one while it starts");
        Bench.due(0, b.state(1701, 3), "its own");
        Bench.due(6, b.entry(1702, 0, 0), "t was built");
        Bench.due(10, b.entry(1701, 0, 0), "4 + 6");
        Bench.due(10, b.entry(1700, 1, 0), "v of 1701");
        b.put(1700, "under 1701;table t 1=v[0]+1701.v[0]+8;");
        b.put(1701, "under 1700;table v 1=1702.x[0];");
        b.put(1702, "under 1701;table x 1=t[0]+1700.v[0]+1;");
        b.issue();
        Bench.due(0, b.need(1700), "under one another");
        Bench.due(1, b.entry(1702, 0, 0), "both halves were 0");
        Bench.due(1, b.state(1700, 3), "t of 1700");
        Bench.due(1, b.state(1701, 3), "v of 1701 through 1700");
        Bench.due(10, b.entry(1700, 0, 0), "1 + 1 + 8");
    }

    private static void withdrawn() {
        Bench b = new Bench();
        b.put(1700, "check 0:33;");
        b.put(1701, "table t 1=1700.x[0];");
        b.put(1702, "try{check 1701.t[0]:1;}else{table a 1=1;}try{check 1701.t[0]:1;}else{table c 1=2;}");
        b.put(1703, "under 1701;try{}else{}");
        b.issue();
        Bench.due(0, b.need(1702), "caught twice");
        Bench.due(33, b.state(1700, 2), "33");
        Bench.due(33, b.state(1701, 2), "what was thrown goes on");
        Bench.due(1, b.entry(1702, 0, 0), "first");
        Bench.due(2, b.entry(1702, 1, 0), "second");
        Bench.due(3, b.count(1), "no second start of a withdrawn one");
        Bench.due(804, b.need(1703), "under a withdrawn one");
        Bench.due(804, b.state(1703, 2), "804");
        b.put(1700, "table x 1=8;");
        Bench.due(804, b.need(1700), "withdrawn until it is issued anew");
        Bench.due(4, b.issue(), "with all that lean on it");
        Bench.due(0, b.need(1703), "it starts");
        Bench.due(8, b.entry(1701, 0, 0), "8");
        Bench.due(1, b.state(1702, 0), "not needed yet");
    }

    private static void withdrawnWhileOthersStarted() {
        Bench b = new Bench();
        b.put(1710, "table t 1=7;table u 1=1711.s[0];check 0:9;rule t[0]+1;");
        b.put(1711, "under 1710;table s 1=t[0];");
        b.put(1712, "check 1711.t[0]:3;");
        b.issue();
        Bench.due(9, b.need(1710), "withdrawn at its end");
        Bench.due(2, b.state(1711, 0), "1711 has started");
        Bench.due(7, b.entry(1711, 0, 0), "with a half");
        Bench.due(1, b.state(1710, 3), "one half");
        Bench.due(804, b.need(1712), "the table's year is needed, too");
        b.voyage(1, 1);
        b.lock(0, 1, 1711, 1);
        Bench.due(0, b.bill(0), "a rule reads the tables of its own sheet as they are");
        Bench.due(8, b.line(0, 0), "7 + 1");
    }

    private static void rowOfStarts() {
        Bench b = new Bench();
        b.put(1700, "");
        for (int i = 1; i < 30; i++) {
            b.put(1700 + i, "under 1700;");
        }
        int starts = 0;
        for (int round = 0; round < 11; round++) {
            b.put(1700, "");
            b.issue();
            for (int year = 1729; year >= 1700; year--) {
                Bench.due(0, b.need(year), "need");
                starts++;
            }
            Bench.due(starts, b.count(1), "starts");
        }
        Bench.due(1729, b.started(0), "the first");
        Bench.due(1700, b.started(1), "the one that it is under");
        Bench.due(1728, b.started(2), "the next");
        Bench.due(1729, b.started(30), "the next edition's first");
        Bench.due(1701, b.started(299), "the last one that is told");
        Bench.due(-1, b.started(300), "the first 300");
        Bench.due(-1, b.started(301), "the first 300");
        Bench.due(330, b.count(1), "all are counted");
    }

    private static void wrongArguments() {
        Bench b = new Bench();
        b.put(1700, "table t 2=4;table u 1=5;");
        b.issue();
        for (int year : new int[] {1699, 1730, 0, Integer.MAX_VALUE, Integer.MIN_VALUE}) {
            Bench.due(-1, b.need(year), "no such year");
            Bench.due(NO, b.entry(year, 0, 0), "no such year");
        }
        Bench.due(803, b.need(1701), "no class");
        Bench.due(NO, b.entry(1701, 0, 0), "no class");
        Bench.due(0, b.count(1), "no starts");
        b.need(1700);
        for (int odd : new int[] {-1, 2, 6, 12, Integer.MAX_VALUE, Integer.MIN_VALUE}) {
            Bench.due(NO, b.entry(1700, odd, 0), "no such table");
            Bench.due(NO, b.entry(1700, 0, odd), "no such entry");
            Bench.due(-1, b.started(odd), "no such start");
        }
        Bench.due(NO, b.entry(1700, 1, 1), "the second table has one entry");
        Bench.due(5, b.entry(1700, 1, 0), "it is this one");
        Bench.due(1700, b.started(0), "started");
        Bench.due(-1, b.started(1), "no second");
    }
}
