/** Promises 1 to 18, sentence by sentence: what is answered where there is such a one, and where there is none. */
public final class PromiseBoundsTest {
    private static final long NO = Bench.NO_VALUE;
    private static final int[] NO_YEARS = {1699, 1730, 0, 29, -1, -1700, 1732, Integer.MIN_VALUE, Integer.MAX_VALUE};

    public static void main(String[] args) {
        tape();
        sheets();
        states();
        classes();
        voyages();
        Bench.close("PromiseBoundsTest");
    }

    private static void tape() {
        Sentences.holds("An object is used for at most 512 calls after it has been made", PromiseBoundsTest::allCalls);
        Sentences.holds("`NONE = -1`: There is none.", PromiseBoundsTest::none);
        Sentences.holds("No SHEETS, no classes, EDITION 0; no VOYAGES.", PromiseBoundsTest::newObject);
        Sentences.holds("Twenty bytes come behind the tape, of each number the highest first: how many it has.", PromiseBoundsTest::feed);
        Sentences.holds("NONE, and nothing comes, if there would be more than 900.", PromiseBoundsTest::feedTooMany);
        Sentences.holds("The tape has its first n bytes alone: n.", PromiseBoundsTest::end);
        Sentences.holds("NONE if it has not so many, or n is below 0.", PromiseBoundsTest::endRefused);
    }

    private static void sheets() {
        Sentences.holds("The tape is taken, as the SHEET of a year: how many STEPS (those in 'try', too).", PromiseBoundsTest::sheet);
        Sentences.holds("NONE: a FAULT.", PromiseBoundsTest::sheetWithFault);
        Sentences.holds("-2, and the tape stays: there is no such year.", PromiseBoundsTest::sheetOfNoYear);
        Sentences.holds("Of the latest sheet() (that did not tell -2)", PromiseBoundsTest::latestFault);
        Sentences.holds("what 0: the FAULT, 0 without, 1: its place, NONE without.", PromiseBoundsTest::fault);
        Sentences.holds("its place, NONE without. NONE for another what.", PromiseBoundsTest::faultOfAnotherWhat);
        Sentences.holds("A year has no SHEET from now on (which is a change).", PromiseBoundsTest::forget);
        Sentences.holds("False: there is no such year, or it has none.", PromiseBoundsTest::forgetRefused);
        Sentences.holds("The classes are made: how many.", PromiseBoundsTest::issue);
    }

    private static void states() {
        Sentences.holds("0: 0 no class, 1 NOT STARTED, 2 STARTED, 3 WITHDRAWN", PromiseBoundsTest::stateOfClass);
        Sentences.holds("1: the EDITION that made its class (0)", PromiseBoundsTest::stateEdition);
        Sentences.holds("2: what was THROWN when it was WITHDRAWN (0)", PromiseBoundsTest::stateThrown);
        Sentences.holds("3: how many HALVES were read of its class", PromiseBoundsTest::stateHalves);
        Sentences.holds("4: how many consts, 5: tables, of its SHEET as it is", PromiseBoundsTest::stateConstsAndTables);
        Sentences.holds("6: the year that this is under (NONE)", PromiseBoundsTest::stateUnder);
        Sentences.holds("7: 1 if it was changed since the latest issue(), else 0.", PromiseBoundsTest::stateChanged);
        Sentences.holds("else 0. NONE if there is none such, or for another what.", PromiseBoundsTest::stateRefused);
        Sentences.holds("Whether the SHEET of a year, as it is, LEANS ON another year.", PromiseBoundsTest::leans);
        Sentences.holds("False, too, if there is none such (of either).", PromiseBoundsTest::leansRefused);
    }

    private static void classes() {
        Sentences.holds("VALUE of the k-th const, as they stand, of a year's class.", PromiseBoundsTest::constant);
        Sentences.holds("-2000000000000000 if it has none, or there is none such.", PromiseBoundsTest::constantNone);
        Sentences.holds("Entry i of the k-th table, as they stand, of a year's class, as it is now (nothing is NEEDED).", PromiseBoundsTest::entry);
        Sentences.holds("(nothing is NEEDED). -2000000000000000 if there is none such.", PromiseBoundsTest::entryNone);
        Sentences.holds("A year is NEEDED: 0, or what is THROWN.", PromiseBoundsTest::need);
        Sentences.holds("or what is THROWN. NONE: there is no such year.", PromiseBoundsTest::needOfNoYear);
        Sentences.holds("The i-th year, from 0 on, in the row of starts (of all EDITIONS; the first 300).", PromiseBoundsTest::started);
        Sentences.holds("the first 300). NONE if there is none such.", PromiseBoundsTest::startedNone);
    }

    private static void voyages() {
        Sentences.holds("A VOYAGE: its number.", PromiseBoundsTest::voyage);
        Sentences.holds("NONE: there are 20, or other numbers.", PromiseBoundsTest::voyageRefused);
        Sentences.holds("A LOCK comes behind a VOYAGE's: how many it has.", PromiseBoundsTest::lock);
        Sentences.holds("NONE: there is no such VOYAGE, it has 8, or other numbers (the year, too).", PromiseBoundsTest::lockRefused);
        Sentences.holds("A VOYAGE is BILLED: 0, or what was THROWN.", PromiseBoundsTest::bill);
        Sentences.holds("NONE: there is no such VOYAGE, or it has no LOCKS.", PromiseBoundsTest::billRefused);
        Sentences.holds("Of the latest bill() of a VOYAGE, what 0: the sum, 1 and more: the LINE of LOCK what - 1.", PromiseBoundsTest::line);
        Sentences.holds("-2000000000000000 if there is none such: no bill(), it did not come out, or for another what.", PromiseBoundsTest::lineNone);
        Sentences.holds("What 0: the EDITION, 1: how many starts there were, 2: bills BOOKED, 3: that did not come out, 4: VOYAGES.", PromiseBoundsTest::count);
        Sentences.holds("4: VOYAGES. NONE for another what.", PromiseBoundsTest::countOfAnotherWhat);
    }

    /** All thirty years start in each round of three calls, up to the last call that is promised an answer. */
    private static void allCalls(Bench b) {
        b.put(1700, "");
        for (int year = 1701; year < 1730; year++) {
            b.put(year, "under " + (year - 1) + ";");
        }
        Bench.due(30, b.issue(), "the first edition");
        Bench.due(0, b.need(1729), "thirty starts");
        int editions = 1;
        for (int calls = 2 + 29 * 3 + 2; calls + 3 + 4 <= 512; calls += 3) {
            b.sheet(1700);
            Bench.due(30, b.issue(), "all lean on 1700");
            Bench.due(0, b.need(1729), "thirty starts");
            editions++;
        }
        Bench.due(2, b.state(1729, 0), "started");
        Bench.due(editions, b.count(0), "editions");
        Bench.due(1700, b.started(299), "the last start that is kept");
        Bench.due(editions * 30, b.count(1), "all starts");
        Bench.due(512, Bench.longest(), "calls");
    }

    private static void none(Bench b) {
        Bench.due(-1, TollAlmanac.NONE, "NONE");
        Bench.due(TollAlmanac.NONE, b.bill(0), "an answer of NONE");
    }

    private static void newObject(Bench b) {
        int[] states = {0, 0, 0, 0, 0, 0, -1, 0};
        for (int year = 1700; year <= 1729; year++) {
            Bench each = new Bench();
            for (int what = 0; what < states.length; what++) {
                Bench.due(states[what], each.state(year, what), "state " + what + " of " + year);
            }
            for (int other = 1700; other <= 1729; other++) {
                Bench.due(0, each.leans(year, other), "no sheet leans on any");
            }
            for (int k = 0; k < 8; k++) {
                Bench.due(NO, each.constant(year, k), "no const");
                Bench.due(NO, each.entry(year, k, 0), "no entry");
            }
            Bench.due(0, each.forget(year), "no sheet");
            Bench.due(803, each.need(year), "no class");
        }
        for (int what = 0; what < 5; what++) {
            Bench.due(0, b.count(what), "count " + what);
        }
        Bench.due(0, b.fault(0), "no fault");
        Bench.due(-1, b.fault(1), "no place");
        Bench.due(0, b.end(0), "an empty tape");
        Bench.due(-1, b.end(1), "an empty tape");
        Bench.due(-1, b.started(0), "no start");
        Bench.due(-1, b.bill(0), "no voyage to bill");
        Bench.due(-1, b.lock(0, 0, 1700, 1), "no voyage to have a lock");
        Bench.due(NO, b.line(0, 0), "no line");
        Bench.due(0, b.issue(), "nothing to issue");
        Bench.due(0, b.sheet(1700), "the empty tape is a sheet");
        TollAlmanac one = new TollAlmanac();
        TollAlmanac other = new TollAlmanac();
        one.issue();
        one.voyage(1, 1);
        Bench.due(0, other.count(0), "objects have nothing in common: editions");
        Bench.due(0, other.count(4), "objects have nothing in common: voyages");
        Bench.due(1, one.count(0), "the one's edition");
    }

    private static void feed(Bench b) {
        Bench.due(20, b.feed(0x636f6e73, 0x7420613d, 0x31323334, 0x35363738, 0x393b2020), "const a=123456789;");
        Bench.due(40, b.feed(0x636f6e73, 0x7420623d, 0x612d313b, 0x20202020, 0x2020200a), "const b=a-1;");
        Bench.due(0, b.sheet(1700), "a sheet");
        b.issue();
        Bench.due(123456789, b.constant(1700, 0), "in order");
        Bench.due(123456788, b.constant(1700, 1), "one behind the other");
        for (int i = 0; i < 20; i++) {
            int[] n = {0x20202020, 0x20202020, 0x20202020, 0x20202020, 0x20202020};
            n[i / 4] += (0x80 + i - 0x20) << (24 - i % 4 * 8);
            Bench.due(20, b.feed(n[0], n[1], n[2], n[3], n[4]), "feed");
            Bench.due(-1, b.sheet(1700), "a byte above 127");
            Bench.due(i, b.fault(1), "its place");
        }
        Bench.due(20, b.feed(-1, -1, -1, -1, -1), "bytes of 255");
        Bench.due(-1, b.sheet(1700), "are no tokens");
        Bench.due(20, b.feed(0, 0, 0, 0, 0), "bytes of 0");
        Bench.due(-1, b.sheet(1700), "are no blanks");
    }

    private static void feedTooMany(Bench b) {
        for (int i = 1; i <= 44; i++) {
            b.feed(0x20202020, 0x20202020, 0x20202020, 0x20202020, 0x20202020);
        }
        Bench.due(900, b.feed(0x20202020, 0x20202020, 0x20202020, 0x20202020, 0x20202020), "just 900");
        Bench.due(-1, b.feed(-1, -1, -1, -1, -1), "920");
        Bench.due(900, b.end(900), "nothing came");
        Bench.due(899, b.end(899), "899");
        Bench.due(-1, b.feed(-1, -1, -1, -1, -1), "919");
        Bench.due(-1, b.end(900), "nothing came");
        Bench.due(881, b.end(881), "881");
        Bench.due(-1, b.feed(-1, -1, -1, -1, -1), "901");
        Bench.due(-1, b.end(882), "nothing came");
        Bench.due(880, b.end(880), "880");
        Bench.due(900, b.feed(0x20202020, 0x20202020, 0x20202020, 0x20202020, 0x20202020), "900 again");
        Bench.due(0, b.sheet(1700), "blanks alone");
        Bench.due(20, b.feed(0, 0, 0, 0, 0), "there is room again");
    }

    private static void end(Bench b) {
        b.text("check 1:1;check 0:2;");
        Bench.due(20, b.end(20), "all of it");
        Bench.due(10, b.end(10), "the first half");
        Bench.due(-1, b.end(11), "the other half is gone");
        Bench.due(30, b.feed(0x63686563, 0x6b20303a, 0x333b2020, 0x20202020, 0x20202020), "fed behind it");
        Bench.due(2, b.sheet(1700), "two checks");
        b.issue();
        Bench.due(3, b.need(1700), "the second is the one fed behind");
        b.text("check");
        Bench.due(0, b.end(0), "nothing of it");
        Bench.due(0, b.sheet(1700), "an empty sheet");
    }

    private static void endRefused(Bench b) {
        Bench.due(0, b.end(0), "0 of none");
        Bench.due(-1, b.end(1), "1 of none");
        Bench.due(-1, b.end(-1), "below 0");
        b.text("rule 1;");
        Bench.due(-1, b.end(8), "it has 7");
        Bench.due(-1, b.end(-1), "below 0");
        Bench.due(-1, b.end(Integer.MIN_VALUE), "far below 0");
        Bench.due(-1, b.end(Integer.MAX_VALUE), "far too many");
        Bench.due(-1, b.end(900), "the room does not count");
        Bench.due(7, b.end(7), "it has 7 still");
        Bench.due(0, b.sheet(1700), "as they were");
    }

    private static void sheet(Bench b) {
        b.right(1700, "", 0);
        b.right(1700, "const a=1;rule 1;", 0);
        b.right(1700, "check 1:1;", 1);
        b.right(1700, "try{check 1:1;table t 1=1;}else{try{check 1:1;}else{check 1:1;}}", 6);
        b.right(1700, Texts.checks(40), 40);
        Bench.due(-1, b.end(1), "the tape is empty");
        Bench.due(0, b.sheet(1701), "so the next sheet is an empty one");
    }

    private static void sheetWithFault(Bench b) {
        b.right(1700, "const a=1;table t 1=1;", 1);
        b.issue();
        for (String text : new String[] {"rule", "const b=1;const b=1;", "under 1700;", "check 1:0;", Texts.tables(7), "check at:1;"}) {
            Bench.due(-1, b.put(1700, text), text);
            Bench.due(-1, b.end(1), "the tape is empty");
            Bench.due(0, b.state(1700, 7), "no change");
            Bench.due(1, b.state(1700, 4), "the sheet is as it was");
            Bench.due(1, b.state(1700, 5), "the sheet is as it was");
            Bench.due(-1, b.put(1701, text.replace("1700", "1701")), "of a year without a sheet");
            Bench.due(0, b.forget(1701), "which has none still");
        }
        b.right(1700, "rule 1;", 0);
    }

    private static void sheetOfNoYear(Bench b) {
        b.text("check 1:1;");
        for (int year : NO_YEARS) {
            Bench.due(-2, b.sheet(year), "no year " + year);
        }
        Bench.due(10, b.end(10), "the tape stays");
        Bench.due(1, b.sheet(1729), "it is taken now");
        b.text("check");
        Bench.due(-2, b.sheet(1730), "no year, though there is a fault");
        Bench.due(0, b.fault(0), "none was told");
        Bench.due(-1, b.sheet(1700), "it is told now");
        Bench.due(1, b.fault(0), "1");
    }

    private static void latestFault(Bench b) {
        b.faulty(1700, "check 1:0;", 4, 8);
        Bench.due(-2, b.sheet(1699), "no year");
        Bench.due(4, b.fault(0), "as it was");
        Bench.due(8, b.fault(1), "as it was");
        b.faulty(1701, "rule at;", 6, 5);
        b.right(1702, "rule 1;", 0);
        b.issue();
        b.need(1702);
        b.forget(1702);
        Bench.due(0, b.fault(0), "no other call tells one");
        b.faulty(1700, "rule", 1, 4);
        b.issue();
        b.text("rule 1;");
        b.forget(1702);
        Bench.due(1, b.fault(0), "no other call takes it away");
        Bench.due(4, b.fault(1), "no other call takes it away");
    }

    private static void fault(Bench b) {
        Bench.due(0, b.fault(0), "ahead of all sheets");
        Bench.due(-1, b.fault(1), "ahead of all sheets");
        b.faulty(1700, "!", 1, 0);
        b.faulty(1700, "rule 1;rule 1;", 2, 7);
        b.faulty(1700, "under 1730;", 3, 6);
        b.faulty(1700, "table t 13=1;", 4, 8);
        b.faulty(1700, Texts.consts(9), 5, 88);
        b.faulty(1700, "rule at;", 6, 5);
        b.right(1700, "rule 1;", 0);
    }

    private static void faultOfAnotherWhat(Bench b) {
        for (int what : new int[] {2, 3, -1, Integer.MIN_VALUE, Integer.MAX_VALUE}) {
            Bench.due(-1, b.fault(what), "another what");
        }
        b.faulty(1700, "rule at;", 6, 5);
        for (int what : new int[] {2, 3, -1, Integer.MIN_VALUE, Integer.MAX_VALUE}) {
            Bench.due(-1, b.fault(what), "another what");
        }
    }

    private static void forget(Bench b) {
        b.put(1700, "under 1701;const a=1;table t 1=1;");
        b.put(1729, "");
        b.issue();
        b.need(1729);
        Bench.due(1, b.forget(1700), "the first year");
        Bench.due(1, b.forget(1729), "the last year");
        Bench.due(1, b.state(1700, 7), "a change");
        Bench.due(0, b.state(1700, 4), "no consts");
        Bench.due(0, b.state(1700, 5), "no tables");
        Bench.due(-1, b.state(1700, 6), "under none");
        Bench.due(0, b.leans(1700, 1701), "leaning on none");
        Bench.due(1, b.state(1700, 0), "its class stays until issue()");
        Bench.due(2, b.state(1729, 0), "its class stays until issue()");
        Bench.due(0, b.issue(), "none is made");
        Bench.due(0, b.state(1700, 0), "no class");
        Bench.due(0, b.state(1729, 0), "no class");
        Bench.due(0, b.state(1700, 7), "issued");
    }

    private static void forgetRefused(Bench b) {
        for (int year : NO_YEARS) {
            Bench.due(0, b.forget(year), "no year " + year);
        }
        Bench.due(0, b.forget(1700), "it has none");
        Bench.due(0, b.state(1700, 7), "no change");
        b.put(1700, "rule");
        Bench.due(0, b.forget(1700), "a text with a fault is none");
        b.put(1700, "");
        Bench.due(1, b.forget(1700), "it has one");
        Bench.due(0, b.forget(1700), "it has none any more");
        b.issue();
        Bench.due(0, b.forget(1700), "nor behind issue()");
        Bench.due(0, b.state(1700, 7), "no change");
    }

    private static void issue(Bench b) {
        Bench.due(0, b.issue(), "none");
        b.put(1700, "");
        Bench.due(1, b.issue(), "one");
        Bench.due(0, b.issue(), "none");
        for (int year = 1701; year <= 1729; year++) {
            b.put(year, "under 1700;");
        }
        Bench.due(29, b.issue(), "those that were changed");
        b.put(1700, "");
        Bench.due(30, b.issue(), "all");
        b.forget(1700);
        Bench.due(29, b.issue(), "those that lean on it");
    }

    private static void stateOfClass(Bench b) {
        Bench.due(0, b.state(1700, 0), "no sheet");
        b.put(1700, "");
        b.put(1701, "check 0:1;");
        Bench.due(0, b.state(1700, 0), "no class");
        b.issue();
        Bench.due(1, b.state(1700, 0), "not started");
        Bench.due(1, b.state(1701, 0), "not started");
        b.need(1700);
        b.need(1701);
        Bench.due(2, b.state(1700, 0), "started");
        Bench.due(3, b.state(1701, 0), "withdrawn");
        b.put(1700, "");
        b.put(1701, "");
        Bench.due(2, b.state(1700, 0), "started");
        Bench.due(3, b.state(1701, 0), "withdrawn");
        b.issue();
        Bench.due(1, b.state(1700, 0), "not started");
        Bench.due(1, b.state(1701, 0), "not started");
    }

    private static void stateEdition(Bench b) {
        b.issue();
        b.put(1700, "");
        Bench.due(0, b.state(1700, 1), "no class yet");
        b.issue();
        Bench.due(2, b.state(1700, 1), "edition 2");
        b.issue();
        b.need(1700);
        Bench.due(2, b.state(1700, 1), "still");
        b.put(1700, "");
        Bench.due(2, b.state(1700, 1), "still");
        b.issue();
        Bench.due(4, b.state(1700, 1), "edition 4");
        b.forget(1700);
        Bench.due(4, b.state(1700, 1), "still");
        b.issue();
        Bench.due(0, b.state(1700, 1), "no class");
    }

    private static void stateThrown(Bench b) {
        b.put(1700, "check 0:800;");
        b.put(1701, "check 0:1;");
        b.put(1702, "check 1:1;");
        b.put(1703, "under 1700;");
        b.issue();
        Bench.due(0, b.state(1700, 2), "not started");
        b.need(1700);
        b.need(1700);
        b.need(1701);
        b.need(1702);
        b.need(1703);
        Bench.due(800, b.state(1700, 2), "800, though 804 came behind it");
        Bench.due(1, b.state(1701, 2), "1");
        Bench.due(0, b.state(1702, 2), "started");
        Bench.due(804, b.state(1703, 2), "804");
        Bench.due(0, b.state(1704, 2), "no class");
        b.put(1700, "");
        Bench.due(800, b.state(1700, 2), "until it is issued");
        b.issue();
        Bench.due(0, b.state(1700, 2), "issued anew");
        b.forget(1701);
        b.issue();
        Bench.due(0, b.state(1701, 2), "no class");
    }

    private static void stateHalves(Bench b) {
        b.put(1700, "table t 1=1701.u[0];");
        b.put(1701, "table u 12=1700.t[0];");
        Bench.due(0, b.state(1700, 3), "no class");
        b.issue();
        Bench.due(0, b.state(1700, 3), "none yet");
        b.need(1700);
        Bench.due(12, b.state(1700, 3), "one an entry");
        Bench.due(0, b.state(1701, 3), "none");
        b.put(1702, "check 1700.t[0]+1:1;");
        b.issue();
        b.need(1702);
        Bench.due(12, b.state(1700, 3), "1700 has started");
        b.put(1700, "table t 1=1701.u[0];");
        Bench.due(12, b.state(1700, 3), "until it is issued");
        b.issue();
        Bench.due(0, b.state(1700, 3), "none of the new class");
        b.need(1701);
        Bench.due(0, b.state(1700, 3), "the other way round");
        Bench.due(1, b.state(1701, 3), "the start of 1700 reads one");
    }

    private static void stateConstsAndTables(Bench b) {
        Bench.due(0, b.state(1700, 4), "no sheet");
        Bench.due(0, b.state(1700, 5), "no sheet");
        b.put(1700, Texts.consts(8) + "try{" + Texts.tables(3) + "}else{" + Texts.named("table u? 1=1;", 3) + "}");
        Bench.due(8, b.state(1700, 4), "eight");
        Bench.due(6, b.state(1700, 5), "six, those within a try, too");
        Bench.due(0, b.state(1700, 0), "no issue() is needed");
        b.issue();
        b.put(1700, "const a=1;table t 1=1;table u 1=1;check 1:1;rule 1;");
        Bench.due(1, b.state(1700, 4), "of the sheet as it is");
        Bench.due(2, b.state(1700, 5), "of the sheet as it is");
        b.put(1700, "under 1701;");
        b.put(1701, Texts.consts(2) + Texts.tables(2));
        Bench.due(0, b.state(1700, 4), "not those of the one that it is under");
        Bench.due(0, b.state(1700, 5), "not those of the one that it is under");
    }

    private static void stateUnder(Bench b) {
        Bench.due(-1, b.state(1715, 6), "no sheet");
        b.put(1715, "rule 1701.a;");
        Bench.due(-1, b.state(1715, 6), "under none");
        b.put(1715, "under 1700;");
        Bench.due(1700, b.state(1715, 6), "the first year");
        b.put(1715, "under 1729;");
        Bench.due(1729, b.state(1715, 6), "the last year");
        b.issue();
        b.put(1715, "");
        Bench.due(-1, b.state(1715, 6), "of the sheet as it is");
    }

    private static void stateChanged(Bench b) {
        Bench.due(0, b.state(1700, 7), "a new object");
        b.put(1700, "");
        b.put(1729, "under 1700;");
        Bench.due(1, b.state(1700, 7), "changed");
        Bench.due(1, b.state(1729, 7), "changed");
        Bench.due(0, b.state(1701, 7), "not changed");
        b.issue();
        Bench.due(0, b.state(1700, 7), "issued");
        Bench.due(0, b.state(1729, 7), "issued");
        b.put(1700, "");
        Bench.due(1, b.state(1700, 7), "changed");
        Bench.due(0, b.state(1729, 7), "what leans on it is not changed by that");
        b.need(1700);
        Bench.due(1, b.state(1700, 7), "a start is no issue()");
        b.issue();
        b.forget(1729);
        Bench.due(1, b.state(1729, 7), "forgotten");
        b.issue();
        Bench.due(0, b.state(1729, 7), "issued");
    }

    private static void stateRefused(Bench b) {
        b.put(1700, "");
        b.issue();
        for (int year : NO_YEARS) {
            for (int what = -1; what <= 8; what++) {
                Bench.due(-1, b.state(year, what), "no year " + year);
            }
        }
        for (int what : new int[] {-1, 8, 9, 100, Integer.MIN_VALUE, Integer.MAX_VALUE}) {
            Bench.due(-1, b.state(1700, what), "another what");
            Bench.due(-1, b.state(1701, what), "another what, no sheet");
        }
        Bench.due(1, b.state(1700, 0), "the first what");
        Bench.due(0, b.state(1700, 7), "the last what");
    }

    private static void leans(Bench b) {
        b.put(1700, "under 1729;rule 1701.a;");
        Bench.due(1, b.leans(1700, 1729), "under");
        Bench.due(1, b.leans(1700, 1701), "named");
        Bench.due(0, b.leans(1700, 1702), "not named");
        Bench.due(0, b.leans(1700, 1700), "itself");
        Bench.due(0, b.leans(1729, 1700), "the other way round");
        b.issue();
        b.put(1700, "under 1702;");
        Bench.due(0, b.leans(1700, 1729), "the sheet as it is");
        Bench.due(1, b.leans(1700, 1702), "the sheet as it is");
        b.put(1729, "rule 1700.a;");
        Bench.due(1, b.leans(1729, 1700), "the last on the first");
    }

    private static void leansRefused(Bench b) {
        b.put(1700, "under 1701;rule 1729.a;");
        for (int year : NO_YEARS) {
            Bench.due(0, b.leans(1700, year), "no other year " + year);
            Bench.due(0, b.leans(year, 1701), "no year " + year);
            Bench.due(0, b.leans(year, year), "neither");
        }
        Bench.due(0, b.leans(1700, 1733), "no year, though 32 more than one");
        Bench.due(0, b.leans(1700, 1669), "no year, though 32 fewer than one");
        Bench.due(0, b.leans(1701, 1700), "no sheet");
        b.forget(1700);
        Bench.due(0, b.leans(1700, 1701), "no sheet any more");
    }

    private static void constant(Bench b) {
        b.put(1700, "const z=5;table t 1=1;const a=-6;rule 1;const m=0;");
        b.put(1729, Texts.named("const ?=7;", 8));
        b.issue();
        Bench.due(5, b.constant(1700, 0), "the first as they stand");
        Bench.due(-6, b.constant(1700, 1), "the second");
        Bench.due(0, b.constant(1700, 2), "the third");
        Bench.due(7, b.constant(1729, 7), "the eighth");
        b.put(1700, "const y=9;");
        Bench.due(5, b.constant(1700, 0), "of the class");
        b.issue();
        Bench.due(9, b.constant(1700, 0), "of the new class");
    }

    private static void constantNone(Bench b) {
        b.put(1700, "const a=1;const b=nix;");
        Bench.due(NO, b.constant(1700, 0), "no class");
        b.issue();
        Bench.due(1, b.constant(1700, 0), "1");
        Bench.due(NO, b.constant(1700, 1), "it has no value");
        for (int k : new int[] {-1, 2, 3, 8, Integer.MIN_VALUE, Integer.MAX_VALUE}) {
            Bench.due(NO, b.constant(1700, k), "no such const");
        }
        for (int year : NO_YEARS) {
            Bench.due(NO, b.constant(year, 0), "no such year");
        }
        Bench.due(NO, b.constant(1701, 0), "no sheet");
        b.forget(1700);
        b.issue();
        Bench.due(NO, b.constant(1700, 0), "no class any more");
    }

    private static void entry(Bench b) {
        b.put(1700, "table z 2=at+5;const c=1;try{table a 1=8;}else{table n 12=at;}table m 12=at+20;");
        b.issue();
        Bench.due(0, b.entry(1700, 0, 0), "0 ahead of the start");
        Bench.due(1, b.state(1700, 0), "nothing was needed");
        Bench.due(0, b.count(1), "nothing was needed");
        b.need(1700);
        Bench.due(5, b.entry(1700, 0, 0), "the first of the first");
        Bench.due(6, b.entry(1700, 0, 1), "the second of the first");
        Bench.due(8, b.entry(1700, 1, 0), "the second table");
        Bench.due(0, b.entry(1700, 2, 11), "the third table, as they stand in the text, not built");
        Bench.due(31, b.entry(1700, 3, 11), "the last of the last");
        b.put(1700, "table z 2=at+50;");
        Bench.due(5, b.entry(1700, 0, 0), "of the class");
        b.issue();
        Bench.due(0, b.entry(1700, 0, 0), "of the new class, as it is now");
    }

    private static void entryNone(Bench b) {
        b.put(1700, Texts.tables(5) + "table u 12=1;");
        b.put(1701, "table t 2=1;");
        Bench.due(NO, b.entry(1700, 0, 0), "no class");
        b.issue();
        Bench.due(0, b.entry(1700, 5, 11), "the last of the last");
        for (int odd : new int[] {-1, 12, 13, Integer.MIN_VALUE, Integer.MAX_VALUE}) {
            Bench.due(NO, b.entry(1700, 5, odd), "no such entry");
            Bench.due(NO, b.entry(1700, 0, odd), "no such entry");
        }
        for (int odd : new int[] {-1, 6, 7, 357913942, Integer.MIN_VALUE, Integer.MAX_VALUE}) {
            Bench.due(NO, b.entry(1700, odd, 0), "no such table");
        }
        Bench.due(NO, b.entry(1700, 0, 1), "the first has one entry");
        Bench.due(0, b.entry(1701, 0, 1), "it has two");
        Bench.due(NO, b.entry(1701, 0, 2), "it has not three");
        Bench.due(NO, b.entry(1701, 1, 0), "there is one table");
        for (int year : NO_YEARS) {
            Bench.due(NO, b.entry(year, 0, 0), "no such year");
        }
        Bench.due(NO, b.entry(1702, 0, 0), "no sheet");
        b.forget(1701);
        b.issue();
        Bench.due(NO, b.entry(1701, 0, 0), "no class any more");
    }

    private static void need(Bench b) {
        b.put(1700, "");
        b.put(1701, "check 0:1;");
        b.put(1702, "check 0:800;");
        b.put(1703, "check 1/0:1;");
        b.put(1704, "check nix:1;");
        b.put(1705, "under 1728;");
        b.put(1706, "under 1701;");
        b.put(1707, "table t 1=t[1];");
        b.issue();
        int[] thrown = {0, 1, 800, 801, 802, 803, 804, 805};
        for (int i = 0; i < thrown.length; i++) {
            Bench.due(thrown[i], b.need(1700 + i), "need " + (1700 + i));
        }
        Bench.due(803, b.need(1729), "the last year has no class");
        Bench.due(0, b.need(1700), "again");
        Bench.due(804, b.need(1707), "again");
    }

    private static void needOfNoYear(Bench b) {
        for (int year : NO_YEARS) {
            Bench.due(-1, b.need(year), "no year " + year);
        }
        Bench.due(803, b.need(1700), "the first year");
        Bench.due(803, b.need(1729), "the last year");
        Bench.due(0, b.count(1), "nothing started");
    }

    /** Thirty years under one another, so that one need starts all. */
    private static void chain(Bench b) {
        for (int year = 1700; year < 1729; year++) {
            b.put(year, "under " + (year + 1) + ";");
        }
    }

    private static void started(Bench b) {
        chain(b);
        for (int round = 1; round <= 9; round++) {
            b.put(1729, "");
            b.issue();
            b.need(1700);
            Bench.due(30 * round, b.count(1), "thirty more");
        }
        b.put(1729, "");
        b.issue();
        b.need(1701);
        Bench.due(299, b.count(1), "299");
        Bench.due(1728, b.started(297), "the last but one");
        Bench.due(1729, b.started(298), "the last");
        Bench.due(-1, b.started(299), "none yet");
        b.need(1700);
        Bench.due(1700, b.started(299), "the three hundredth");
        Bench.due(-1, b.started(300), "no more");
        b.put(1729, "");
        b.issue();
        b.need(1729);
        Bench.due(301, b.count(1), "they are counted on");
        Bench.due(-1, b.started(300), "but the first 300 are told alone");
        Bench.due(1700, b.started(299), "the three hundredth");
        b.need(1700);
        Bench.due(330, b.count(1), "they are counted on");
        Bench.due(-1, b.started(301), "but not told");
        Bench.due(-1, b.started(329), "but not told");
        Bench.due(1700, b.started(0), "the first");
        Bench.due(1729, b.started(29), "the last of the first edition");
        Bench.due(1700, b.started(30), "the first of the second edition");
    }

    private static void startedNone(Bench b) {
        Bench.due(-1, b.started(0), "none");
        b.put(1729, "");
        b.issue();
        Bench.due(-1, b.started(0), "none");
        b.need(1729);
        Bench.due(1729, b.started(0), "the first");
        for (int i : new int[] {-1, 1, 299, 300, Integer.MIN_VALUE, Integer.MAX_VALUE}) {
            Bench.due(-1, b.started(i), "none such");
        }
    }

    private static void voyage(Bench b) {
        Bench.due(0, b.voyage(0, 0), "the first");
        Bench.due(-1, b.voyage(-1, 0), "refused");
        Bench.due(1, b.voyage(100000, 9), "the second");
        Bench.due(2, b.voyage(100000, 9), "the third, as the second");
    }

    private static void voyageRefused(Bench b) {
        int[][] wrong = {{-1, 0}, {100001, 0}, {0, -1}, {0, 10}, {-1, -1}, {100001, 10}, {Integer.MIN_VALUE, 0}, {Integer.MAX_VALUE, 0},
            {0, Integer.MIN_VALUE}, {0, Integer.MAX_VALUE}};
        for (int[] one : wrong) {
            Bench.due(-1, b.voyage(one[0], one[1]), "other numbers");
        }
        Bench.due(0, b.count(4), "none");
        for (int i = 0; i < 20; i++) {
            Bench.due(i, b.voyage(i, i % 10), "voyage");
        }
        Bench.due(-1, b.voyage(0, 0), "there are 20");
        Bench.due(-1, b.voyage(-1, 0), "there are 20");
        Bench.due(20, b.count(4), "20");
    }

    private static void lock(Bench b) {
        b.put(1700, "rule lock;");
        b.issue();
        b.voyage(0, 0);
        b.voyage(0, 0);
        Bench.due(1, b.lock(0, 5, 1700, 1), "one");
        Bench.due(2, b.lock(0, 4, 1700, 1), "two");
        Bench.due(1, b.lock(1, 3, 1700, 1), "one of the other");
        Bench.due(3, b.lock(0, 4, 1700, 1), "three, as the second");
        b.bill(0);
        b.bill(1);
        Bench.due(5, b.line(0, 1), "the first");
        Bench.due(4, b.line(0, 2), "behind it");
        Bench.due(4, b.line(0, 3), "behind it");
        Bench.due(3, b.line(1, 1), "of the other");
    }

    private static void lockRefused(Bench b) {
        Bench.due(-1, b.lock(0, 0, 1700, 1), "no voyage");
        b.voyage(0, 0);
        for (int voyage : new int[] {-1, 1, 20, Integer.MIN_VALUE, Integer.MAX_VALUE}) {
            Bench.due(-1, b.lock(voyage, 0, 1700, 1), "no such voyage");
        }
        for (int lock : new int[] {-1, 100, Integer.MIN_VALUE, Integer.MAX_VALUE}) {
            Bench.due(-1, b.lock(0, lock, 1700, 1), "no such lock");
        }
        for (int year : NO_YEARS) {
            Bench.due(-1, b.lock(0, 0, year, 1), "no such year");
        }
        for (int day : new int[] {0, -1, 367, Integer.MIN_VALUE, Integer.MAX_VALUE}) {
            Bench.due(-1, b.lock(0, 0, 1700, day), "no such day");
        }
        Bench.due(-1, b.bill(0), "it has none still");
        for (int i = 1; i <= 8; i++) {
            Bench.due(i, b.lock(0, i == 1 ? 0 : 99, i == 1 ? 1700 : 1729, i == 1 ? 1 : 366), "lock " + i);
        }
        Bench.due(-1, b.lock(0, 0, 1700, 1), "it has 8");
        b.voyage(0, 0);
        Bench.due(1, b.lock(1, 0, 1700, 1), "another has none");
    }

    private static void bill(Bench b) {
        b.put(1700, "rule 1;");
        b.put(1701, "rule 1/0;");
        b.put(1702, "check 0:9;");
        b.put(1703, "");
        b.put(1704, "table t 1=1;rule t[1];");
        b.issue();
        int[] thrown = {0, 801, 9, 802, 805, 803};
        for (int i = 0; i < thrown.length; i++) {
            b.voyage(0, 0);
            b.lock(i, 0, 1700 + i, 1);
            Bench.due(thrown[i], b.bill(i), "bill " + i);
        }
        Bench.due(804, b.bill(2), "withdrawn");
        Bench.due(0, b.bill(0), "once more");
    }

    private static void billRefused(Bench b) {
        Bench.due(-1, b.bill(0), "no voyage");
        b.voyage(0, 0);
        Bench.due(-1, b.bill(0), "no locks");
        for (int voyage : new int[] {-1, 1, 20, Integer.MIN_VALUE, Integer.MAX_VALUE}) {
            Bench.due(-1, b.bill(voyage), "no such voyage");
        }
        Bench.due(0, b.count(3), "they did not fail to come out");
        b.lock(0, 0, 1700, 1);
        Bench.due(803, b.bill(0), "one lock");
        Bench.due(1, b.count(3), "this one did not come out");
    }

    private static void line(Bench b) {
        b.put(1700, "rule day;");
        b.issue();
        b.voyage(0, 0);
        b.voyage(0, 0);
        for (int i = 1; i <= 8; i++) {
            b.lock(0, 0, 1700, i * i);
        }
        b.lock(1, 0, 1700, 300);
        b.bill(0);
        b.bill(1);
        Bench.due(204, b.line(0, 0), "the sum");
        for (int i = 1; i <= 8; i++) {
            Bench.due(i * i, b.line(0, i), "line " + i);
        }
        Bench.due(300, b.line(1, 0), "the other sum");
        Bench.due(300, b.line(1, 1), "the other line");
        b.put(1700, "rule -day;");
        b.issue();
        Bench.due(204, b.line(0, 0), "of the latest bill()");
        b.bill(0);
        Bench.due(-204, b.line(0, 0), "which is this one now");
        Bench.due(-64, b.line(0, 8), "which is this one now");
        Bench.due(300, b.line(1, 0), "of this voyage it is the former one");
    }

    private static void lineNone(Bench b) {
        b.put(1700, "rule 8/(day-1);");
        b.issue();
        Bench.due(NO, b.line(0, 0), "no voyage");
        b.voyage(0, 0);
        Bench.due(NO, b.line(0, 0), "no locks");
        b.lock(0, 0, 1700, 2);
        Bench.due(NO, b.line(0, 0), "no bill()");
        Bench.due(NO, b.line(0, 1), "no bill()");
        b.bill(0);
        Bench.due(8, b.line(0, 0), "the sum");
        Bench.due(8, b.line(0, 1), "the line");
        for (int what : new int[] {-1, 2, 8, 9, Integer.MIN_VALUE, Integer.MAX_VALUE}) {
            Bench.due(NO, b.line(0, what), "another what");
        }
        for (int voyage : new int[] {-1, 1, 20, Integer.MIN_VALUE, Integer.MAX_VALUE}) {
            Bench.due(NO, b.line(voyage, 0), "no such voyage");
        }
        b.lock(0, 0, 1700, 3);
        Bench.due(NO, b.line(0, 2), "the latest bill() has no such line");
        b.bill(0);
        Bench.due(4, b.line(0, 2), "now it has");
        b.lock(0, 0, 1700, 1);
        Bench.due(801, b.bill(0), "it does not come out");
        for (int what = 0; what <= 3; what++) {
            Bench.due(NO, b.line(0, what), "it did not come out");
        }
    }

    private static void count(Bench b) {
        b.put(1700, "rule 1/(day-1);");
        b.issue();
        b.issue();
        b.issue();
        b.voyage(0, 0);
        b.voyage(0, 0);
        b.lock(0, 0, 1700, 2);
        b.lock(1, 0, 1700, 1);
        int[] ahead = {3, 0, 0, 0, 2};
        for (int what = 0; what < 5; what++) {
            Bench.due(ahead[what], b.count(what), "count " + what);
        }
        b.bill(0);
        b.bill(1);
        b.bill(1);
        b.bill(1);
        b.bill(0);
        int[] behind = {3, 1, 2, 3, 2};
        for (int what = 0; what < 5; what++) {
            Bench.due(behind[what], b.count(what), "count " + what);
        }
    }

    private static void countOfAnotherWhat(Bench b) {
        Bench.due(0, b.count(0), "the first what");
        Bench.due(0, b.count(4), "the last what");
        for (int what : new int[] {-1, 5, 6, 100, Integer.MIN_VALUE, Integer.MAX_VALUE}) {
            Bench.due(-1, b.count(what), "another what");
        }
    }
}
