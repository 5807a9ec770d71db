import java.util.List;

/** Terms 2, sentence by sentence: leaning, editions and the values of constants, on both sides of each boundary. */
public final class EditionBoundsTest {
    private static final long NO = Bench.NO_VALUE;
    private static final long LIMIT = 1000000000000000L;

    public static void main(String[] args) {
        Sentences.holds("A SHEET LEANS ON the year that it is under, and on each that it names ahead of a point.", EditionBoundsTest::leansOn);
        Sentences.holds("on each that it names ahead of a point", EditionBoundsTest::leansOnAllOthers);
        Sentences.holds("A text is a change of its year's SHEET, also if it is as it was.", EditionBoundsTest::sameTextIsAChange);
        Sentences.holds("issue() makes an EDITION, numbered from 1 on", EditionBoundsTest::editionNumbers);
        Sentences.holds("of each year whose SHEET was changed since the latest issue()", EditionBoundsTest::changedYears);
        Sentences.holds("and of each whose SHEET LEANS ON such a year, and so on", EditionBoundsTest::leaningGoesOn);
        Sentences.holds("(a year without a SHEET has no class, but what LEANS ON it is made)", EditionBoundsTest::yearWithoutSheet);
        Sentences.holds("a new class, of the SHEET as it is: it is NOT STARTED", EditionBoundsTest::newClass);
        Sentences.holds("Other years keep their classes.", EditionBoundsTest::othersKeepTheirs);
        values();
        Bench.close("EditionBoundsTest");
    }

    private static void values() {
        Sentences.holds("CONSTANTS have a VALUE, by the SHEETS of the classes as they are", EditionBoundsTest::valuesOfClasses);
        Sentences.holds("a NAME in K is a const of that SHEET, else, if it is under a year, what that NAME is there", EditionBoundsTest::namesInConstants);
        Sentences.holds("NUMBER . NAME is what it is in that year's class likewise", EditionBoundsTest::namesOfYears);
        Sentences.holds("A const has none if its K needs a NAME that is none", EditionBoundsTest::namesThatAreNone);
        Sentences.holds("(in a chain of 30, too)", EditionBoundsTest::chainsOfThirty);
        Sentences.holds("one without a VALUE", EditionBoundsTest::needsOneWithout);
        Sentences.holds("itself on any way", EditionBoundsTest::needsItself);
        Sentences.holds("or comes to anything above 10^15", EditionBoundsTest::aboveTheLimit);
        Sentences.holds("or below -10^15", EditionBoundsTest::belowTheLimit);
        Sentences.holds("above 10^15 or below -10^15 on its way", EditionBoundsTest::limitOnItsWay);
    }

    private static void leansOn(Bench b) {
        List<String> texts = List.of("under 1710;", "const a=1710.x;", "const a=2*3--1710.x;", "table t 1=1710.x;", "table t 1=1710.x[0];",
            "check 1710.x:1;", "rule 1710.x;", "rule t[1710.x];", "rule (1710.x);", "rule 1?1710.x:2;", "rule 1?2:1710.x;",
            "try{check 1710.x:1;}else{}", "try{}else{check 1710.x:1;}", "rule 1701.y[1710.x];");
        for (String text : texts) {
            Bench each = new Bench();
            each.put(1700, text);
            for (int other = 1700; other <= 1729; other++) {
                boolean named = other == 1710 || other == 1701 && text.contains("1701");
                Bench.due(named ? 1 : 0, each.leans(1700, other), text + " leans on " + other);
            }
            Bench.due(0, each.leans(1710, 1700), "the other way round");
        }
        b.put(1700, "rule 1710;check 1711:5;const a=1712;");
        for (int other = 1710; other <= 1712; other++) {
            Bench.due(0, b.leans(1700, other), "a number that is no year");
        }
        b.put(1701, "under 1702;");
        b.put(1702, "under 1703;");
        Bench.due(1, b.leans(1701, 1702), "the one that it is under");
        Bench.due(0, b.leans(1701, 1703), "not the one that this is under");
    }

    private static void leansOnAllOthers(Bench b) {
        for (int own : new int[] {1700, 1714, 1729}) {
            StringBuilder text = new StringBuilder("rule 0");
            for (int year = 1700; year <= 1729; year++) {
                text.append(year == own ? "" : "+" + year + ".a");
            }
            b.put(own, text + ";");
            for (int year = 1700; year <= 1729; year++) {
                Bench.due(year == own ? 0 : 1, b.leans(own, year), own + " leans on " + year);
            }
        }
    }

    private static void sameTextIsAChange(Bench b) {
        b.put(1700, "check 1:1;");
        Bench.due(1, b.state(1700, 7), "the first text");
        b.issue();
        Bench.due(0, b.state(1700, 7), "issued");
        b.need(1700);
        b.put(1700, "check 1:1;");
        Bench.due(1, b.state(1700, 7), "the same text");
        Bench.due(1, b.issue(), "a new class");
        Bench.due(1, b.state(1700, 0), "not started");
        Bench.due(2, b.state(1700, 1), "of edition 2");
        b.need(1700);
        b.put(1700, "check 1:0;");
        Bench.due(0, b.state(1700, 7), "a text with a fault is no change");
        Bench.due(0, b.issue(), "no new class");
        Bench.due(2, b.state(1700, 0), "started still");
        b.put(1701, "");
        Bench.due(1, b.state(1701, 7), "an empty text where there was none");
        Bench.due(1, b.issue(), "has a class");
        b.put(1701, "");
        Bench.due(1, b.state(1701, 7), "an empty text again");
        Bench.due(1, b.issue(), "has a new one");
    }

    private static void editionNumbers(Bench b) {
        Bench.due(0, b.count(0), "edition 0");
        b.put(1700, "");
        Bench.due(0, b.count(0), "a text is no edition");
        b.issue();
        Bench.due(1, b.count(0), "the first");
        Bench.due(1, b.state(1700, 1), "made by the first");
        for (int i = 2; i <= 200; i++) {
            Bench.due(0, b.issue(), "an edition of nothing");
        }
        Bench.due(200, b.count(0), "numbered on");
        Bench.due(1, b.state(1700, 1), "kept");
        b.put(1700, "");
        b.issue();
        Bench.due(201, b.state(1700, 1), "made by the latest");
    }

    private static void changedYears(Bench b) {
        Bench.due(0, b.issue(), "none was changed");
        for (int year = 1700; year <= 1729; year++) {
            b.put(year, "check 1:1;");
        }
        Bench.due(30, b.issue(), "all were changed");
        Bench.due(0, b.issue(), "since the latest none was");
        b.put(1700, "check 1:1;");
        b.put(1700, "check 1:1;");
        b.put(1729, "check 1:1;");
        Bench.due(2, b.issue(), "a year changed twice is made once");
        for (int year = 1700; year <= 1729; year++) {
            Bench.due(year == 1700 || year == 1729 ? 4 : 2, b.state(year, 1), "edition of " + year);
            Bench.due(0, b.state(year, 7), "changed no more");
        }
    }

    /** Thirty years lean on one another in a row, once from the first on and once from the last. */
    private static void leaningGoesOn(Bench b) {
        for (int step : new int[] {1, -1}) {
            Bench each = new Bench();
            int first = step == 1 ? 1700 : 1729;
            each.put(first, "const a=1;");
            for (int i = 1; i < 30; i++) {
                int on = first + step * (i - 1);
                each.put(first + step * i, i % 3 == 0 ? "under " + on + ";" : i % 3 == 1 ? "rule " + on + ".a;" : "try{}else{check " + on + ".t[0]:1;}");
            }
            Bench.due(30, each.issue(), "all");
            each.put(first, "const a=2;");
            Bench.due(30, each.issue(), "all lean on the first, and so on");
            each.put(first + step * 29, "");
            Bench.due(1, each.issue(), "none leans on the last");
            each.put(first + step * 14, "");
            Bench.due(15, each.issue(), "those from the middle on, but for the last that leans no more");
            Bench.due(2, each.state(first + step * 13, 1), "ahead of the middle");
            Bench.due(4, each.state(first + step * 14, 1), "the middle");
            Bench.due(4, each.state(first + step * 28, 1), "the last but one");
            Bench.due(3, each.state(first + step * 29, 1), "the last");
            each.put(first, "");
            Bench.due(14, each.issue(), "up to the middle, which leans no more");
        }
        b.put(1700, "under 1701;");
        b.put(1701, "under 1702;");
        b.put(1702, "under 1700;");
        Bench.due(3, b.issue(), "a round");
        b.put(1701, "under 1702;");
        Bench.due(3, b.issue(), "each leans on each, and so on");
    }

    private static void yearWithoutSheet(Bench b) {
        b.put(1701, "under 1700;");
        b.put(1702, "rule 1701.a;");
        b.put(1703, "");
        Bench.due(3, b.issue(), "1700 has no sheet");
        Bench.due(0, b.state(1700, 0), "it has no class");
        Bench.due(803, b.need(1700), "so it is not needed with success");
        b.put(1700, "");
        Bench.due(3, b.issue(), "1700 and those that lean on it");
        Bench.due(1, b.state(1700, 0), "it has a class");
        b.forget(1700);
        Bench.due(1, b.state(1700, 0), "until it is issued");
        Bench.due(2, b.issue(), "it is not made, but what leans on it");
        Bench.due(0, b.state(1700, 0), "no class");
        Bench.due(0, b.state(1700, 1), "of no edition");
        Bench.due(3, b.state(1701, 1), "made anew");
        Bench.due(3, b.state(1702, 1), "made anew");
        Bench.due(1, b.state(1703, 1), "kept");
        Bench.due(0, b.issue(), "nothing was changed since");
        b.put(1700, "");
        b.forget(1700);
        Bench.due(2, b.issue(), "put and forgotten is a change");
        b.forget(1701);
        Bench.due(1, b.issue(), "1702 leans on it");
        b.put(1700, "");
        Bench.due(1, b.issue(), "what is forgotten leans on nothing");
    }

    private static void newClass(Bench b) {
        b.put(1700, "const a=1;table t 1=7;");
        b.put(1701, "check 0:9;");
        b.issue();
        b.need(1700);
        b.need(1701);
        b.put(1700, "const a=2;table t 2=8;");
        b.put(1700, "const a=3;table t 3=9;");
        b.put(1701, "check 0:9;");
        Bench.due(2, b.state(1700, 0), "started until it is issued");
        Bench.due(3, b.state(1701, 0), "withdrawn until it is issued");
        Bench.due(7, b.entry(1700, 0, 0), "of the sheet as it was");
        Bench.due(2, b.issue(), "two");
        Bench.due(1, b.state(1700, 0), "not started");
        Bench.due(1, b.state(1701, 0), "not started");
        Bench.due(0, b.state(1701, 2), "nothing was thrown");
        Bench.due(3, b.constant(1700, 0), "of the sheet as it is");
        Bench.due(0, b.entry(1700, 0, 2), "as it is, not built");
        Bench.due(NO, b.entry(1700, 0, 3), "it has three entries");
        Bench.due(2, b.count(1), "issue() starts nothing");
    }

    private static void othersKeepTheirs(Bench b) {
        b.put(1700, "table t 2=1701.u[at]+3;");
        b.put(1701, "table u 2=1700.t[0]+1;");
        b.put(1702, "check 0:44;");
        b.put(1703, "const a=1;");
        b.put(1704, "");
        b.issue();
        b.need(1700);
        b.need(1702);
        b.put(1703, "const a=2;");
        b.forget(1704);
        Bench.due(1, b.issue(), "1703 alone");
        Bench.due(2, b.state(1700, 0), "started");
        Bench.due(2, b.state(1700, 3), "its halves");
        Bench.due(4, b.entry(1700, 0, 1), "its entries");
        Bench.due(3, b.state(1702, 0), "withdrawn");
        Bench.due(44, b.state(1702, 2), "by 44");
        Bench.due(804, b.need(1702), "still");
        Bench.due(1, b.state(1702, 1), "of edition 1");
        Bench.due(2, b.state(1703, 1), "of edition 2");
    }

    private static void valuesOfClasses(Bench b) {
        b.put(1700, "const a=5;");
        b.put(1701, "const b=1700.a+1;");
        Bench.due(NO, b.constant(1700, 0), "no class, no value");
        b.issue();
        Bench.due(6, b.constant(1701, 0), "of the classes");
        b.put(1700, "const a=50;");
        b.put(1701, "const b=7;const c=8;");
        Bench.due(5, b.constant(1700, 0), "sheets that are not issued give no value");
        Bench.due(6, b.constant(1701, 0), "nor to what needs them");
        Bench.due(NO, b.constant(1701, 1), "the class has one const");
        b.forget(1701);
        Bench.due(6, b.constant(1701, 0), "nor does a forgotten one take it");
        b.issue();
        Bench.due(50, b.constant(1700, 0), "the new class");
        Bench.due(NO, b.constant(1701, 0), "no class");
        Bench.due(1, b.state(1700, 0), "a value needs no start");
    }

    private static void namesInConstants(Bench b) {
        b.put(1700, "const a=1;const b=a+10;const c=7;");
        b.put(1701, "under 1700;const a=2;const d=a;const e=b;const f=c;");
        b.put(1702, "under 1701;const c=9;const g=d+e+f;const h=c;");
        b.put(1703, "const i=c;");
        b.put(1704, "under 1700;table c 1=1;const j=c;");
        b.issue();
        Bench.due(2, b.constant(1701, 1), "a of its own sheet");
        Bench.due(11, b.constant(1701, 2), "b there, by the a that stands there");
        Bench.due(7, b.constant(1701, 3), "c of the older sheet");
        Bench.due(2 + 11 + 7, b.constant(1702, 1), "what those names are there");
        Bench.due(9, b.constant(1702, 2), "its own first");
        Bench.due(NO, b.constant(1703, 0), "under no year");
        Bench.due(7, b.constant(1704, 0), "a table of that name is no const");
    }

    private static void namesOfYears(Bench b) {
        b.put(1700, "const a=1;const b=2;");
        b.put(1701, "under 1700;const b=3;");
        b.put(1702, "const c=1701.a;const d=1701.b;const e=1700.b;const f=1703.a;const g=1701.f;const h=b;");
        b.put(1704, "under 1703;const i=1700.a;const j=1704;");
        b.issue();
        Bench.due(1, b.constant(1702, 0), "found in the one that 1701 is under");
        Bench.due(3, b.constant(1702, 1), "of 1701");
        Bench.due(2, b.constant(1702, 2), "of 1700");
        Bench.due(NO, b.constant(1702, 3), "a year without a class");
        Bench.due(NO, b.constant(1702, 4), "f is looked for in 1701, not in 1702");
        Bench.due(NO, b.constant(1702, 5), "1702 is under no year");
        Bench.due(1, b.constant(1704, 0), "a year without a class ahead of it does not matter");
        Bench.due(1704, b.constant(1704, 1), "a number by itself");
    }

    private static void namesThatAreNone(Bench b) {
        b.put(1700, "const a=x;const b=0*x;const c=1+2-x;const d=1;table x 1=1;");
        b.put(1701, "under 1700;const e=x;const f=d;");
        b.put(1702, "under 1729;const g=d;");
        b.issue();
        Bench.due(NO, b.constant(1700, 0), "none");
        Bench.due(NO, b.constant(1700, 1), "needed, though the product would be 0");
        Bench.due(NO, b.constant(1700, 2), "needed at the end");
        Bench.due(1, b.constant(1700, 3), "needs none");
        Bench.due(NO, b.constant(1701, 0), "a table is no const");
        Bench.due(1, b.constant(1701, 1), "one that is");
        Bench.due(NO, b.constant(1702, 0), "under a year without a class");
    }

    private static void chainsOfThirty(Bench b) {
        for (int step : new int[] {1, -1}) {
            Bench each = new Bench();
            int first = step == 1 ? 1700 : 1729;
            for (int i = 0; i < 29; i++) {
                each.put(first + step * i, "under " + (first + step * (i + 1)) + ";" + (i == 0 ? "const k=z;" : ""));
            }
            each.put(first + step * 29, "const z=12;const y=" + first + ".z;");
            each.issue();
            Bench.due(12, each.constant(first, 0), "the thirtieth of the chain");
            Bench.due(12, each.constant(first + step * 29, 1), "the thirtieth from a named year on");
            each.put(first + step * 29, "under " + first + ";const y=1;");
            Bench.due(30, each.issue(), "a round of thirty");
            Bench.due(NO, each.constant(first, 0), "none in it");
            Bench.due(1, each.constant(first + step * 29, 0), "others have theirs");
            each.forget(first + step * 29);
            each.issue();
            Bench.due(NO, each.constant(first, 0), "a chain of 29 that ends without a class");
        }
        b.put(1700, "under 1701;const a=z;const b=y;");
        b.put(1701, "under 1700;const y=4;");
        b.issue();
        Bench.due(NO, b.constant(1700, 0), "none in a round of two");
        Bench.due(4, b.constant(1700, 1), "the other one's");
    }

    private static void needsOneWithout(Bench b) {
        b.put(1700, "const a=x;const b=a;const c=b*0;const d=5;const e=d;");
        b.put(1701, "const f=1700.c;const g=1700.e;");
        b.put(1702, "under 1703;const a=x;const h=a;");
        b.put(1703, "const a=6;");
        b.issue();
        Bench.due(NO, b.constant(1700, 1), "needs a");
        Bench.due(NO, b.constant(1700, 2), "needs b");
        Bench.due(5, b.constant(1700, 4), "needs one with a value");
        Bench.due(NO, b.constant(1701, 0), "of another year");
        Bench.due(5, b.constant(1701, 1), "of another year");
        Bench.due(NO, b.constant(1702, 1), "the nearest a is without, though an older one is not");
        Bench.due(6, b.constant(1703, 0), "the older one");
        b.put(1700, "const a=1;const b=a;const c=b*3;const d=5;const e=d;");
        b.issue();
        Bench.due(3, b.constant(1701, 0), "it has one now");
    }

    private static void needsItself(Bench b) {
        b.put(1700, "const a=a;const b=c;const c=d-1;const d=2*b;const e=1+c;const f=4;const g=f;");
        b.put(1701, "const a=1702.a;const b=3;");
        b.put(1702, "const a=1703.a;const b=1701.b;");
        b.put(1703, "const a=1701.a;const b=1702.b;");
        b.put(1704, "under 1705;const a=b;");
        b.put(1705, "const b=1704.a;const c=1704.d;");
        b.issue();
        String[] ways = {"at once", "by c and d", "by d and b", "by b and c", "by one that needs itself"};
        for (int k = 0; k < ways.length; k++) {
            Bench.due(NO, b.constant(1700, k), ways[k]);
        }
        Bench.due(4, b.constant(1700, 6), "beside them");
        for (int year = 1701; year <= 1703; year++) {
            Bench.due(NO, b.constant(year, 0), "by three years");
            Bench.due(3, b.constant(year, 1), "years may need one another");
        }
        Bench.due(NO, b.constant(1704, 0), "by the one that it is under");
        Bench.due(NO, b.constant(1705, 0), "by the one that is under it");
        Bench.due(NO, b.constant(1705, 1), "none");
        b.put(1703, "const a=8;const b=1702.b;");
        b.issue();
        Bench.due(8, b.constant(1701, 0), "the round is open");
    }

    private static void aboveTheLimit(Bench b) {
        b.put(1700, "const m=1000000;const t=m*m*1000;const u=t+1;const v=t-1+1;const w=999999999*m;const x=999999999*1000001;const y=t--1;const z=t*1;");
        b.put(1701, "under 1700;const a=t+t;const b=-1*-t;const c=t*2;const d=65536*65536;const e=d*d;const f=-d*d;const g=d*d*d*d;const h=w+1000000;");
        b.issue();
        Bench.due(LIMIT, b.constant(1700, 1), "10^15");
        Bench.due(NO, b.constant(1700, 2), "10^15 + 1");
        Bench.due(LIMIT, b.constant(1700, 3), "10^15 - 1 + 1");
        Bench.due(999999999000000L, b.constant(1700, 4), "just below 10^15");
        Bench.due(NO, b.constant(1700, 5), "just above 10^15");
        Bench.due(NO, b.constant(1700, 6), "10^15 less -1");
        Bench.due(LIMIT, b.constant(1700, 7), "10^15 * 1");
        Bench.due(NO, b.constant(1701, 0), "2 * 10^15");
        Bench.due(LIMIT, b.constant(1701, 1), "-1 * -10^15");
        Bench.due(NO, b.constant(1701, 2), "10^15 * 2");
        Bench.due(4294967296L, b.constant(1701, 3), "2^32");
        Bench.due(NO, b.constant(1701, 4), "2^64, which is 0 in 64 bits");
        Bench.due(NO, b.constant(1701, 5), "-2^64");
        Bench.due(NO, b.constant(1701, 6), "2^128");
        Bench.due(LIMIT, b.constant(1701, 7), "a sum of 10^15");
    }

    private static void belowTheLimit(Bench b) {
        b.put(1700, "const m=1000000;const t=-m*m*1000;const u=t-1;const v=t+1-1;const w=-999999999*m;const x=-999999999*1000001;const y=-1*-t;const z=t+-1;");
        b.put(1701, "under 1700;const a=t+t;const b=t*1;const c=t*2;const d=m*-1000*m;const e=m*m*-1001;const f=w-1000000;const g=w-1000001;const h=-t;");
        b.issue();
        Bench.due(-LIMIT, b.constant(1700, 1), "-10^15");
        Bench.due(NO, b.constant(1700, 2), "-10^15 - 1");
        Bench.due(-LIMIT, b.constant(1700, 3), "-10^15 + 1 - 1");
        Bench.due(-999999999000000L, b.constant(1700, 4), "just above -10^15");
        Bench.due(NO, b.constant(1700, 5), "just below -10^15");
        Bench.due(-LIMIT, b.constant(1700, 6), "-1 * 10^15");
        Bench.due(NO, b.constant(1700, 7), "-10^15 + -1");
        Bench.due(NO, b.constant(1701, 0), "-2 * 10^15, the answer for none in any case");
        Bench.due(-LIMIT, b.constant(1701, 1), "-10^15 * 1");
        Bench.due(NO, b.constant(1701, 2), "-10^15 * 2");
        Bench.due(-LIMIT, b.constant(1701, 3), "by a negative factor");
        Bench.due(NO, b.constant(1701, 4), "-1001 * 10^12");
        Bench.due(-LIMIT, b.constant(1701, 5), "a difference of -10^15");
        Bench.due(NO, b.constant(1701, 6), "one of -10^15 - 1");
        Bench.due(LIMIT, b.constant(1701, 7), "10^15");
        b.put(1702, "under 1701;check a:1;");
        b.put(1703, "under 1701;check b:1;");
        b.issue();
        Bench.due(802, b.need(1702), "-2 * 10^15 is no value");
        Bench.due(0, b.need(1703), "-10^15 is one");
    }

    private static void limitOnItsWay(Bench b) {
        b.put(1700, "const m=1000000;const t=m*m*1000;const a=t+1-1;const b=t-1+1;const c=t*2*0;const d=0*2*t;const e=-t-1+1;const f=-t+1-1;");
        b.put(1701, "under 1700;const a=1-1*2*t;const b=t-t+t-t;const c=t+t-t-t;const d=1+t-1;const e=1-1+t;const f=-1+t+1;const g=t-2*t;const h=-t*2+t;");
        b.issue();
        Bench.due(NO, b.constant(1700, 2), "t + 1 on its way");
        Bench.due(LIMIT, b.constant(1700, 3), "t - 1 on its way");
        Bench.due(NO, b.constant(1700, 4), "t * 2 on its way to 0");
        Bench.due(0, b.constant(1700, 5), "0 * 2 * t");
        Bench.due(NO, b.constant(1700, 6), "-t - 1 on its way");
        Bench.due(-LIMIT, b.constant(1700, 7), "-t + 1 on its way");
        Bench.due(NO, b.constant(1701, 0), "2 * t on its way");
        Bench.due(0, b.constant(1701, 1), "t, 0, t, 0");
        Bench.due(NO, b.constant(1701, 2), "t + t on its way to 0");
        Bench.due(NO, b.constant(1701, 3), "1 + t on its way");
        Bench.due(LIMIT, b.constant(1701, 4), "0 + t");
        Bench.due(LIMIT, b.constant(1701, 5), "-1 + t + 1");
        Bench.due(NO, b.constant(1701, 6), "2 * t on its way to -t");
        Bench.due(NO, b.constant(1701, 7), "-t * 2 on its way to -t");
    }
}
