/** Promises 6 to 10: forget, issue, state, leans, constant, with term 2. */
public final class IssueTest {
    private static final long NO = Bench.NO_VALUE;

    public static void main(String[] args) {
        forget();
        editions();
        leaningSpreads();
        yearWithoutSheet();
        states();
        leans();
        values();
        valuesAlongChains();
        valuesOfLongNames();
        valuesOnThemselves();
        limits();
        valuesOfClasses();
        wrongArguments();
        Bench.close("IssueTest");
    }

    private static void forget() {
        Bench b = new Bench();
        Bench.due(0, b.forget(1700), "forget: no sheet");
        Bench.due(0, b.forget(1699), "forget: no year");
        Bench.due(0, b.forget(1730), "forget: no year");
        Bench.due(0, b.state(1700, 7), "a refused forget is no change");
        b.put(1700, "const a=1;under");
        Bench.due(0, b.forget(1700), "a faulty text is no sheet");
        b.put(1700, "const a=1;");
        b.issue();
        Bench.due(1, b.forget(1700), "forget");
        Bench.due(0, b.forget(1700), "forget twice");
        Bench.due(1, b.state(1700, 7), "forget is a change");
        Bench.due(0, b.state(1700, 4), "no sheet has no consts");
        Bench.due(1, b.state(1700, 0), "the class stays until issue()");
        Bench.due(1, b.constant(1700, 0), "and its consts");
        Bench.due(0, b.issue(), "no class is made");
        Bench.due(0, b.state(1700, 0), "no class");
        Bench.due(0, b.state(1700, 1), "no edition");
        Bench.due(0, b.state(1700, 7), "the change is issued");
        Bench.due(NO, b.constant(1700, 0), "no const");
        b.put(1700, "const a=1;");
        b.forget(1700);
        b.put(1700, "const a=2;");
        Bench.due(1, b.issue(), "forgotten and put again");
        Bench.due(2, b.constant(1700, 0), "the new one");
        b.put(1701, "");
        b.forget(1701);
        Bench.due(0, b.issue(), "put and forgotten: nothing to make");
        Bench.due(0, b.state(1701, 0), "no class of it");
    }

    private static void editions() {
        Bench b = new Bench();
        b.put(1700, "check 1:1;");
        b.put(1701, "check 1:1;");
        Bench.due(2, b.issue(), "two classes");
        Bench.due(0, b.need(1700), "need");
        Bench.due(0, b.issue(), "nothing was changed");
        Bench.due(2, b.state(1700, 0), "the class is kept");
        Bench.due(2, b.count(0), "an edition all the same");
        b.put(1700, "check 1:1;");
        Bench.due(2, b.state(1700, 0), "the class is as it was until issue()");
        Bench.due(1, b.issue(), "the same text is a change");
        Bench.due(1, b.state(1700, 0), "made anew: not started");
        Bench.due(3, b.state(1700, 1), "made by edition 3");
        Bench.due(1, b.state(1701, 1), "the other by edition 1");
    }

    private static void leaningSpreads() {
        Bench b = new Bench();
        b.put(1700, "const a=1;");
        b.put(1701, "under 1700;");
        b.put(1702, "const b=1701.a;");
        b.put(1703, "check 1?1:1702.t[0]:1;");
        b.put(1704, "rule 1703.x;");
        b.put(1705, "try{}else{table t 1=1704.q[0];}");
        b.put(1706, "const c=1;");
        b.put(1707, "under 1706;");
        Bench.due(8, b.issue(), "all");
        b.put(1700, "const a=5;");
        Bench.due(6, b.issue(), "1700 and all that lean on it, and so on");
        Bench.due(2, b.state(1705, 1), "the last in the row");
        Bench.due(1, b.state(1707, 1), "not leaning");
        Bench.due(5, b.constant(1702, 0), "of the new class");
        b.put(1703, "check 1:1;");
        Bench.due(3, b.issue(), "from the middle on, by the sheet as it is");
        Bench.due(2, b.state(1702, 1), "ahead of the middle");
        b.put(1700, "");
        Bench.due(3, b.issue(), "1703 leans no more");
        b.put(1708, "under 1709;");
        b.put(1709, "under 1708;");
        Bench.due(2, b.issue(), "leaning on one another");
        b.put(1708, "under 1709;");
        Bench.due(2, b.issue(), "a round of two");
    }

    private static void yearWithoutSheet() {
        Bench b = new Bench();
        b.put(1701, "under 1700;const b=a;");
        Bench.due(1, b.issue(), "under a year without a sheet");
        Bench.due(NO, b.constant(1701, 0), "a is not there");
        b.put(1700, "const a=3;");
        Bench.due(2, b.issue(), "it is there now");
        Bench.due(3, b.constant(1701, 0), "a is there");
        b.forget(1700);
        Bench.due(1, b.issue(), "what leans on it is made");
        Bench.due(3, b.state(1701, 1), "anew");
        Bench.due(NO, b.constant(1701, 0), "a is gone");
        b.forget(1701);
        b.put(1700, "const a=4;");
        Bench.due(1, b.issue(), "a forgotten sheet leans on none");
    }

    private static void states() {
        Bench b = new Bench();
        b.put(1700, "under 1729;const a=1;const b=1;try{table t 1=1;}else{table u 1=1;}table v 1=1;check 0:77;");
        Bench.due(2, b.state(1700, 4), "consts");
        Bench.due(3, b.state(1700, 5), "tables, in try, too");
        Bench.due(1729, b.state(1700, 6), "under");
        Bench.due(1, b.state(1700, 7), "changed");
        Bench.due(0, b.state(1700, 0), "no class");
        b.put(1729, "");
        b.issue();
        Bench.due(0, b.state(1700, 7), "issued");
        Bench.due(1, b.state(1700, 0), "not started");
        Bench.due(77, b.need(1700), "need");
        Bench.due(3, b.state(1700, 0), "withdrawn");
        Bench.due(77, b.state(1700, 2), "thrown");
        Bench.due(2, b.state(1729, 0), "started");
        Bench.due(0, b.state(1729, 2), "nothing thrown");
        Bench.due(-1, b.state(1729, 6), "under none");
        b.put(1700, "");
        Bench.due(0, b.state(1700, 4), "the sheet as it is");
        Bench.due(-1, b.state(1700, 6), "the sheet as it is");
        Bench.due(77, b.state(1700, 2), "the class as it was");
        b.issue();
        Bench.due(0, b.state(1700, 2), "the new class");
        for (int what : new int[] {-1, 8, 9, Integer.MAX_VALUE, Integer.MIN_VALUE}) {
            Bench.due(-1, b.state(1700, what), "another what");
        }
        for (int what = 0; what < 8; what++) {
            Bench.due(-1, b.state(1699, what), "no year");
            Bench.due(-1, b.state(1730, what), "no year");
            Bench.due(-1, b.state(Integer.MIN_VALUE, what), "no year");
        }
    }

    private static void leans() {
        Bench b = new Bench();
        b.put(1700, "under 1701;const a=1702.x;table t 2=1703.y[at]+1704.z;check 1?1:1705.q:4;rule 1706.w[1707.k];");
        for (int year = 1701; year <= 1707; year++) {
            Bench.due(1, b.leans(1700, year), "leans on " + year);
            Bench.due(0, b.leans(year, 1700), "no sheet leans on none");
        }
        Bench.due(0, b.leans(1700, 1708), "not named");
        Bench.due(0, b.leans(1700, 1700), "itself");
        Bench.due(0, b.leans(1700, 1730), "no year");
        Bench.due(0, b.leans(1699, 1700), "no year");
        Bench.due(0, b.leans(1700, 1732), "no year whose bit would be another's");
        Bench.due(0, b.leans(1700, 1669), "no year whose bit would be another's");
        Bench.due(0, b.leans(1700, 1733), "no year whose bit would be another's");
        b.put(1701, "under 1702;");
        Bench.due(0, b.leans(1700, 1708), "leaning is of the sheet alone");
        b.put(1702, "check 1703:1;");
        Bench.due(0, b.leans(1702, 1703), "a number is no year");
        b.put(1700, "under 1729;");
        Bench.due(0, b.leans(1700, 1701), "as it is");
        Bench.due(1, b.leans(1700, 1729), "as it is");
    }

    private static void values() {
        Bench b = new Bench();
        b.put(1700, "const a=7;const b=-a;const c=2+3*4-5;const d=10-2-3;const e=-2*-3;const f=g+1;const g=a*a*a;const h=0-1*2;");
        b.issue();
        long[] want = {7, -7, 9, 5, 6, 344, 343, -2};
        for (int k = 0; k < 8; k++) {
            Bench.due(want[k], b.constant(1700, k), "const " + k);
        }
        b.put(1701, "const a=x;const b=a;const c=3;table t 1=1;const d=t;const e=c*d;");
        b.issue();
        Bench.due(NO, b.constant(1701, 0), "a name that is none");
        Bench.due(NO, b.constant(1701, 1), "one without a value");
        Bench.due(3, b.constant(1701, 2), "another one");
        Bench.due(NO, b.constant(1701, 3), "a table is no const");
        Bench.due(NO, b.constant(1701, 4), "needs one without a value");
        Bench.due(1, b.state(1701, 0), "consts start nothing");
    }

    private static void valuesAlongChains() {
        Bench b = new Bench();
        b.put(1700, "const a=1;const b=c;const c=5;");
        b.put(1701, "under 1700;const c=6;const d=b;const e=a+c;");
        b.put(1702, "const f=1701.a;const g=1701.c;const h=1701.nix;");
        b.put(1703, "under 1704;const a=z;");
        b.put(1704, "under 1703;const y=1;");
        b.issue();
        Bench.due(5, b.constant(1701, 1), "b means its own sheet's c");
        Bench.due(7, b.constant(1701, 2), "a of the older, c of this one");
        Bench.due(1, b.constant(1702, 0), "a is found through 1701");
        Bench.due(6, b.constant(1702, 1), "c of 1701");
        Bench.due(NO, b.constant(1702, 2), "in no sheet of the chain");
        Bench.due(NO, b.constant(1703, 0), "in no sheet of a round");
        for (int year = 1700; year < 1729; year++) {
            b.put(year, "under " + (year + 1) + ";const k=last;");
        }
        b.put(1729, "const last=12;");
        b.issue();
        Bench.due(12, b.constant(1700, 0), "the thirtieth of a chain");
        b.put(1729, "under 1700;const first=1;");
        b.issue();
        Bench.due(NO, b.constant(1700, 0), "a round of thirty");
    }

    private static void valuesOfLongNames() {
        Bench b = new Bench();
        b.put(1729, "const zzzzzzzz=1;const aaaaaaaa=zzzzzzzz+1;const z=3;const a=4;");
        b.put(1728, "const zzzzzzzz=1729.zzzzzzzz*10;const a=1729.aaaaaaaa*10;const b=1729.z*10;const c=zzzzzzzz+1729.a;");
        b.issue();
        long[] want = {10, 20, 30, 14};
        for (int k = 0; k < 4; k++) {
            Bench.due(want[k], b.constant(1728, k), "a name of eight letters beside short ones: " + k);
        }
    }

    private static void valuesOnThemselves() {
        Bench b = new Bench();
        b.put(1700, "const a=a;const b=c;const c=d;const d=b*0;const e=1;const f=e+b;");
        b.put(1701, "const a=1702.b;const c=2;");
        b.put(1702, "const b=1701.a;const d=1701.c;const e=b;");
        b.put(1703, "under 1704;const a=b;");
        b.put(1704, "const b=1703.c;const d=1703.a;");
        b.issue();
        for (int k = 0; k < 4; k++) {
            Bench.due(NO, b.constant(1700, k), "needs itself: " + k);
        }
        Bench.due(1, b.constant(1700, 4), "beside them");
        Bench.due(NO, b.constant(1700, 5), "needs one of them");
        Bench.due(NO, b.constant(1701, 0), "by another year");
        Bench.due(NO, b.constant(1702, 0), "by another year");
        Bench.due(2, b.constant(1702, 1), "years may need one another");
        Bench.due(NO, b.constant(1702, 2), "needs it");
        Bench.due(NO, b.constant(1703, 0), "through a name that is none");
        Bench.due(NO, b.constant(1704, 1), "through both");
    }

    private static void limits() {
        Bench b = new Bench();
        b.put(1700, "const m=1000000;const t=m*m*1000;const u=t+1;const v=-t;const w=v-1;const x=t+1-1;const y=t+-1+1;const z=0*t*t;");
        b.issue();
        Bench.due(1000000000000000L, b.constant(1700, 1), "10^15");
        Bench.due(NO, b.constant(1700, 2), "above 10^15");
        Bench.due(-1000000000000000L, b.constant(1700, 3), "-10^15");
        Bench.due(NO, b.constant(1700, 4), "below -10^15");
        Bench.due(NO, b.constant(1700, 5), "above on its way");
        Bench.due(1000000000000000L, b.constant(1700, 6), "not above on its way");
        Bench.due(0, b.constant(1700, 7), "0 * t * t stays 0");
        b.put(1701, "under 1700;const a=t*t*0;const b=999999999*999999999;const c=m*m*1001;const d=-1000*m*m;const e=-1001*m*m;const f=t-t+t;const g=v*-1;const h=t*t*t;");
        b.issue();
        Bench.due(NO, b.constant(1701, 0), "t * t is above on its way");
        Bench.due(NO, b.constant(1701, 1), "just below 10^18");
        Bench.due(NO, b.constant(1701, 2), "1001 * 10^12");
        Bench.due(-1000000000000000L, b.constant(1701, 3), "-1000 * 10^12");
        Bench.due(NO, b.constant(1701, 4), "-1001 * 10^12");
        Bench.due(1000000000000000L, b.constant(1701, 5), "t - t + t");
        Bench.due(1000000000000000L, b.constant(1701, 6), "v * -1");
        Bench.due(NO, b.constant(1701, 7), "around 64 bits");
    }

    private static void valuesOfClasses() {
        Bench b = new Bench();
        b.put(1700, "const a=1;");
        b.put(1701, "const b=1700.a+1;");
        Bench.due(NO, b.constant(1700, 0), "no class yet");
        b.issue();
        b.put(1700, "const x=9;const a=10;");
        Bench.due(1, b.constant(1700, 0), "of the class, not the sheet");
        Bench.due(2, b.constant(1701, 0), "of the class, not the sheet");
        Bench.due(NO, b.constant(1700, 1), "the class has one const");
        b.issue();
        Bench.due(9, b.constant(1700, 0), "as they stand");
        Bench.due(11, b.constant(1701, 0), "of the new class");
        b.put(1700, "check 0:1;const a=3;");
        b.issue();
        b.need(1700);
        Bench.due(3, b.state(1700, 0), "withdrawn");
        Bench.due(3, b.constant(1700, 0), "consts need no start");
        Bench.due(4, b.constant(1701, 0), "of a withdrawn class, too");
    }

    private static void wrongArguments() {
        Bench b = new Bench();
        b.put(1700, "const a=1;");
        b.issue();
        for (int k : new int[] {-1, 1, 7, 8, Integer.MAX_VALUE, Integer.MIN_VALUE}) {
            Bench.due(NO, b.constant(1700, k), "no such const");
        }
        for (int year : new int[] {1699, 1701, 1730, Integer.MAX_VALUE, Integer.MIN_VALUE}) {
            Bench.due(NO, b.constant(year, 0), "no such class");
        }
    }
}
