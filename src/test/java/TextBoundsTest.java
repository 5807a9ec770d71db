import java.util.List;

/** Terms 1, sentence by sentence: the tape, its tokens, the limits of the grammar and the faults, on both sides. */
public final class TextBoundsTest {
    private static final String[] WORDS = {"under", "const", "rule", "table", "check", "try", "else", "at", "tons", "cargo", "lock", "day"};

    public static void main(String[] args) {
        Sentences.holds("YEARS are 1700 .. 1729", TextBoundsTest::years);
        Sentences.holds("each has a SHEET, or none", TextBoundsTest::sheetOrNone);
        Sentences.holds("THE TAPE has at most 900 bytes", TextBoundsTest::tapeRoom);
        Sentences.holds("TOKENS, as long as they go", TextBoundsTest::tokensGoOn);
        Sentences.holds("blanks (10, 32) between", TextBoundsTest::blanks);
        Sentences.holds("NAMES: 1 to 8 letters a .. z", TextBoundsTest::names);
        Sentences.holds("NUMBERS: 1 to 9 digits", TextBoundsTest::numbers);
        Sentences.holds("signs, one byte each: { } [ ] ( ) ; : = < > + - * / % ? .", TextBoundsTest::signs);
        Sentences.holds("(a longer row of letters or digits is no token)", TextBoundsTest::longRows);
        Sentences.holds("WORDS, told in ' ' below, are no NAMES", TextBoundsTest::words);
        grammar();
        depths();
        firstFaults();
        faultsByKind();
        Bench.close("TextBoundsTest");
    }

    private static void grammar() {
        Sentences.holds("SHEET: ['under' NUMBER ';'] {PART}.", TextBoundsTest::sheetGrammar);
        Sentences.holds("PART: 'const' NAME '=' K ';' | STEP | 'rule' E ';'.", TextBoundsTest::partGrammar);
        Sentences.holds("STEP: 'table' NAME NUMBER '=' E ';' | 'check' E ':' NUMBER ';'", TextBoundsTest::stepGrammar);
        Sentences.holds("'try' '{' {STEP} '}' 'else' '{' {STEP} '}'.", TextBoundsTest::tryGrammar);
        Sentences.holds("K: L {('+' | '-') L}.  L: M {'*' M}.", TextBoundsTest::constantGrammar);
        Sentences.holds("M: ['-'] (NUMBER | NAME | NUMBER '.' NAME).", TextBoundsTest::oneMinusInConstants);
        Sentences.holds("E: C ['?' E ':' E].", TextBoundsTest::choiceGrammar);
        Sentences.holds("C: S [('=' | '<' | '>') S].", TextBoundsTest::oneComparison);
        Sentences.holds("S: T {('+' | '-') T}.  T: U {('*' | '/' | '%') U}.", TextBoundsTest::sumGrammar);
        Sentences.holds("U: ['-'] A.", TextBoundsTest::oneMinus);
        Sentences.holds("A: NUMBER | NAME ['[' E ']'] | NUMBER '.' NAME ['[' E ']'] | 'at' | 'tons' | 'cargo' | 'lock' | 'day' | '(' E ')'.",
            TextBoundsTest::operandGrammar);
    }

    private static void depths() {
        Sentences.holds("At most 12 E may be open at one place (in one another, by ? : [ ] ( ))", TextBoundsTest::openByBrackets);
        Sentences.holds("(in one another, by ? : [ ] ( ))", TextBoundsTest::openByChoices);
        Sentences.holds("12 E may be open at one place", TextBoundsTest::closedOnesAreNotOpen);
        Sentences.holds("and 3 'try'", TextBoundsTest::openTries);
        Sentences.holds("(a further one can't stand there: 1 at its first token)", TextBoundsTest::furtherOnes);
    }

    private static void firstFaults() {
        Sentences.holds("with their places (a token's first byte)", TextBoundsTest::places);
        Sentences.holds("1 the first byte or token with which no text goes on (the end, too)", TextBoundsTest::endOfText);
        Sentences.holds("1 the first byte or token with which no text goes on", TextBoundsTest::brokenAnywhere);
        Sentences.holds("If there is none: the first of these, by places, at one the least", TextBoundsTest::firstByPlaces);
        Sentences.holds("If there is none:", TextBoundsTest::brokenAheadOfAll);
        Sentences.holds("(Of what is one too many nothing else is told, nor of what stands in it.)", TextBoundsTest::nothingElseOfTooMany);
    }

    private static void faultsByKind() {
        Sentences.holds("2 a NAME that a const or table of the SHEET has already", TextBoundsTest::namesTwice);
        Sentences.holds("(also within 'try')", TextBoundsTest::namesTwiceInTries);
        Sentences.holds("a second 'rule' (at the word)", TextBoundsTest::secondRule);
        Sentences.holds("3 a year (the NUMBER behind under, or ahead of a point) that is not 1700 .. 1729", TextBoundsTest::wrongYears);
        Sentences.holds("or is the SHEET's own", TextBoundsTest::ownYear);
        Sentences.holds("4 a table's NUMBER that is not 1 .. 12", TextBoundsTest::tableNumbers);
        Sentences.holds("a check's that is not 1 .. 800", TextBoundsTest::checkNumbers);
        Sentences.holds("5 one too many, at its word: 8 consts", TextBoundsTest::eightConsts);
        Sentences.holds("6 tables", TextBoundsTest::sixTables);
        Sentences.holds("40 STEPS", TextBoundsTest::fortySteps);
        Sentences.holds("6 'at' outside of a table's E", TextBoundsTest::atOutside);
        Sentences.holds("'tons', 'cargo', 'lock', 'day' outside of the rule", TextBoundsTest::settingsOutside);
    }

    private static void right(String text, int steps) {
        new Bench().right(1700, text, steps);
    }

    private static void faulty(String text, int fault, int place) {
        new Bench().faulty(1700, text, fault, place);
    }

    private static void years(Bench b) {
        b.text("check 1:1;");
        Bench.due(-2, b.sheet(1699), "the year ahead of the first");
        Bench.due(-2, b.sheet(1730), "the year behind the last");
        Bench.due(1, b.sheet(1700), "the first year");
        b.right(1729, "check 1:1;", 1);
        b.issue();
        Bench.due(0, b.need(1700), "the first has a class");
        Bench.due(0, b.need(1729), "the last has a class");
    }

    private static void sheetOrNone(Bench b) {
        Bench.due(0, b.forget(1700), "none");
        b.right(1700, "", 0);
        Bench.due(1, b.forget(1700), "an empty text is a sheet");
        Bench.due(0, b.forget(1700), "none again");
    }

    private static void tapeRoom(Bench b) {
        for (int i = 1; i <= 45; i++) {
            Bench.due(20 * i, b.feed(0x20202020, 0x20202020, 0x20202020, 0x20202020, 0x20202020), "feed " + i);
        }
        Bench.due(-1, b.feed(0, 0, 0, 0, 0), "a full tape");
        Bench.due(-1, b.end(901), "nothing came");
        Bench.due(900, b.end(900), "it has 900");
        Bench.due(0, b.sheet(1700), "nine hundred blanks");
        right(Texts.wide(900, "check 1:1;"), 1);
        faulty(Texts.wide(900, "!"), 1, 899);
        faulty(Texts.wide(900, "rule"), 1, 900);
        faulty(Texts.wide(900, "check 1:0;"), 4, 898);
        right("rule 11" + "+1".repeat(446) + ";", 0);
        faulty("rule 1" + "+1".repeat(446) + ".;", 1, 899);
    }

    private static void tokensGoOn(Bench b) {
        b.right(1700, "under1701;table t3=at;", 1);
        b.faulty(1700, "constant=1;", 1, 0);
        b.right(1700, "const ant=1;", 0);
        b.faulty(1700, "tablet 3=at;", 1, 0);
        b.faulty(1700, "rule 1 2;", 1, 7);
        b.faulty(1700, "rule a b;", 1, 7);
        b.put(1700, "const a=1 +2;const ab=34;");
        b.issue();
        Bench.due(3, b.constant(1700, 0), "two numbers");
        Bench.due(34, b.constant(1700, 1), "one number");
    }

    /** Each of the 256 bytes behind the 1 of a const: what goes on there is known for each. */
    private static void blanks(Bench b) {
        for (int c = 0; c < 256; c++) {
            String text = "const a=1" + (char) c + ";";
            if (c == 10 || c == 32 || c >= '0' && c <= '9') {
                right(text, 0);
            } else {
                faulty(text, 1, "+-*.;".indexOf(c) >= 0 ? 10 : 9);
            }
        }
        b.right(1700, "\n\n  under \n 1701 \n;\n\ncheck\n1\n:\n1\n;\n  ", 1);
    }

    private static void names(Bench b) {
        b.right(1700, "const a=1;const z=1;const azazazaz=1;const zzzzzzzz=1;table y 1=1;", 1);
        b.faulty(1700, "const zzzzzzzzz=1;", 1, 6);
        b.faulty(1700, "table zzzzzzzzz 1=1;", 1, 6);
        b.faulty(1700, "rule aaaaaaaaa;", 1, 5);
        b.right(1700, "rule aaaaaaaa;", 0);
        b.faulty(1700, "rule 1701.aaaaaaaaa;", 1, 10);
        b.right(1700, "rule 1701.aaaaaaaa;", 0);
        b.faulty(1700, "const =1;", 1, 6);
        b.faulty(1700, "const `=1;", 1, 6);
        b.faulty(1700, "const {=1;", 1, 6);
        b.faulty(1700, "const A=1;", 1, 6);
        b.faulty(1700, "const aZ=1;", 1, 7);
        b.faulty(1700, "const a_b=1;", 1, 7);
        b.put(1700, "const aaaaaaaa=1;const aaaaaaab=2;const baaaaaaa=3;rule 1;");
        b.issue();
        Bench.due(2, b.constant(1700, 1), "eight letters, all of them read");
        b.faulty(1700, "const aaaaaaaa=1;const aaaaaaaa=2;", 2, 23);
        longestNamesOfYears();
    }

    /** Names of eight letters, from the first of all to the last, are not taken for another year's or for shorter ones. */
    private static void longestNamesOfYears() {
        Bench b = new Bench();
        for (int year = 1700; year < 1729; year++) {
            b.put(year, "const zzzzzzzz=" + year + ";const aaaaaaaa=5;const pzzzzzzz=7;const z=8;table zzzzzzza 1=9;");
        }
        StringBuilder text = new StringBuilder("table t 1=0");
        for (int year = 1700; year < 1729; year++) {
            text.append('+').append(year).append(".zzzzzzzz");
        }
        b.put(1729, text + ";table u 1=1728.aaaaaaaa*1000+1727.pzzzzzzz*100+1726.z*10+1725.zzzzzzza[0];");
        b.issue();
        Bench.due(0, b.need(1729), "all are there");
        Bench.due(29 * 1714, b.entry(1729, 0, 0), "1700 + .. + 1728");
        Bench.due(5789, b.entry(1729, 1, 0), "each its own");
    }

    private static void numbers(Bench b) {
        b.put(1700, "const a=0;const b=9;const c=999999999;const d=000000012;const e=100000000;");
        b.issue();
        long[] want = {0, 9, 999999999, 12, 100000000};
        for (int k = 0; k < want.length; k++) {
            Bench.due(want[k], b.constant(1700, k), "number " + k);
        }
        b.faulty(1700, "const a=1000000000;", 1, 8);
        b.faulty(1700, "const a=0000000012;", 1, 8);
        b.faulty(1700, "rule 9999999999;", 1, 5);
        b.faulty(1700, "under 0000001701;", 1, 6);
        b.right(1700, "under 000001701;", 0);
        b.faulty(1700, "table t 0000000001=1;", 1, 8);
        b.right(1700, "table t 000000001=1;", 1);
        b.faulty(1700, "check 1:0000000001;", 1, 8);
        b.right(1700, "check 1:000000001;", 1);
        b.faulty(1700, "const a=/;", 1, 8);
        b.faulty(1700, "const a=:;", 1, 8);
    }

    private static void signs(Bench b) {
        b.right(1700, "try{table t 1=(1=1)+t[0]*2/3%4-5<6?7:1701.a>8;}else{}", 2);
        b.faulty(1700, "check 1==1:1;", 1, 8);
        b.faulty(1700, "check 1<=1:1;", 1, 8);
        b.faulty(1700, "check 1>=1:1;", 1, 8);
        b.right(1700, "check 1=-1:1;", 1);
        for (char c : "!\"#$&',@\\^_`|~ABZ".toCharArray()) {
            faulty("check 1" + c + "1:1;", 1, 7);
        }
    }

    private static void longRows(Bench b) {
        b.faulty(1700, "checkcheck 1:1;", 1, 0);
        b.faulty(1700, "tableabcd 1=1;", 1, 0);
        b.faulty(1700, "table abcdefghi 1=1;", 1, 6);
        b.right(1700, "table abcdefgh 1=1;", 1);
        b.faulty(1700, "rule " + "a".repeat(890) + ";", 1, 5);
        b.faulty(1700, "rule " + "1".repeat(890) + ";", 1, 5);
        b.faulty(1700, "a".repeat(900), 1, 0);
        b.faulty(1700, "check at:1;const a=1234567890;", 1, 19);
        b.right(1700, "rule 123456789;", 0);
        b.right(1700, "rule 123456789 +123456789;", 0);
    }

    private static void words(Bench b) {
        for (String word : WORDS) {
            faulty("const " + word + "=1;", 1, 6);
            faulty("table " + word + " 1=1;", 1, 6);
            faulty("const a=" + word + ";", 1, 8);
            faulty("rule 1701." + word + ";", 1, 10);
            faulty("rule 1701." + word + "[0];", 1, 10);
            right("const " + word + "x=1;const x" + word + "=1;const a=1701." + word + "x;", 0);
            right("const " + word.substring(1) + "q=1;", 0);
        }
        for (String word : List.of("under", "const", "rule", "table", "check", "try", "else")) {
            b.faulty(1700, "rule " + word + ";", 1, 5);
        }
        for (String word : List.of("tons", "cargo", "lock", "day")) {
            b.right(1700, "rule " + word + ";", 0);
            b.faulty(1700, "rule " + word + "[0];", 1, 5 + word.length());
        }
        b.faulty(1700, "table t 1=at[0];", 1, 12);
    }

    private static void sheetGrammar(Bench b) {
        b.right(1700, "", 0);
        b.right(1700, "under 1701;", 0);
        b.faulty(1700, "under 1701;under 1702;", 1, 11);
        b.faulty(1700, "rule 1;under 1701;", 1, 7);
        b.faulty(1700, "under;", 1, 5);
        b.faulty(1700, "under 1701", 1, 10);
        b.faulty(1700, "under -1701;", 1, 6);
    }

    private static void partGrammar(Bench b) {
        b.right(1700, "rule 1;check 1:1;const a=1;", 1);
        b.faulty(1700, "rule 1", 1, 6);
        b.faulty(1700, "rule;", 1, 4);
        b.faulty(1700, "rule 1:1;", 1, 6);
        b.faulty(1700, "const a;", 1, 7);
        b.faulty(1700, "a=1;", 1, 0);
        b.faulty(1700, "check 1:-1;", 1, 8);
        b.faulty(1700, "table t -1=1;", 1, 8);
        b.faulty(1700, ";", 1, 0);
        b.faulty(1700, "rule 1;;", 1, 7);
    }

    private static void stepGrammar(Bench b) {
        b.right(1700, "table t 1=1;check 1:1;", 2);
        b.faulty(1700, "table 1=1;", 1, 6);
        b.faulty(1700, "table t=1;", 1, 7);
        b.faulty(1700, "table t 1;", 1, 9);
        b.faulty(1700, "table t 1=;", 1, 10);
        b.faulty(1700, "table t 1=1", 1, 11);
        b.faulty(1700, "table t a=1;", 1, 8);
        b.faulty(1700, "table t 1 2=1;", 1, 10);
        b.faulty(1700, "table t 1=1:1;", 1, 11);
        b.faulty(1700, "check :1;", 1, 6);
        b.faulty(1700, "check 1;", 1, 7);
        b.faulty(1700, "check 1:;", 1, 8);
        b.faulty(1700, "check 1:a;", 1, 8);
        b.faulty(1700, "check 1:1", 1, 9);
        b.faulty(1700, "check 1:1+1;", 1, 9);
        b.faulty(1700, "check 1:1.a;", 1, 9);
        b.faulty(1700, "check a 1:1;", 1, 8);
    }

    private static void tryGrammar(Bench b) {
        b.right(1700, "try{}else{}", 1);
        b.right(1700, "try{check 1:1;check 1:1;}else{check 1:1;check 1:1;}", 5);
        b.faulty(1700, "try{}", 1, 5);
        b.faulty(1700, "try{}else{}else{}", 1, 11);
        b.faulty(1700, "try{const a=1;}else{}", 1, 4);
        b.faulty(1700, "try{rule 1;}else{}", 1, 4);
        b.faulty(1700, "try{}else{const a=1;}", 1, 10);
        b.faulty(1700, "try{}else{rule 1;}", 1, 10);
        b.faulty(1700, "try check 1:1;else{}", 1, 4);
    }

    private static void constantGrammar(Bench b) {
        b.right(1700, "const a=1;const b=1+2-3*4*5+a*b;", 0);
        b.faulty(1700, "const a=1+;", 1, 10);
        b.faulty(1700, "const a=1*;", 1, 10);
        b.faulty(1700, "const a=+1;", 1, 8);
        b.faulty(1700, "const a=;", 1, 8);
        for (String sign : List.of("/", "%", "=", "<", ">", "?", "[", "(")) {
            b.faulty(1700, "const a=1" + sign + "1;", 1, 9);
        }
        b.faulty(1700, "const a=(1);", 1, 8);
        b.faulty(1700, "const a=t[0];", 1, 9);
        right("const a=1" + "+1".repeat(440) + ";", 0);
        right("const a=1" + "*1".repeat(440) + ";", 0);
    }

    private static void oneMinusInConstants(Bench b) {
        b.right(1700, "const a=-1;const b=1--1;const c=1*-a;const d=-1701.a;", 0);
        b.faulty(1700, "const a=--1;", 1, 9);
        b.faulty(1700, "const a=1---1;", 1, 11);
        b.faulty(1700, "const a=1701.-a;", 1, 13);
        b.faulty(1700, "const a=a.b;", 1, 9);
    }

    private static void choiceGrammar(Bench b) {
        b.right(1700, "rule 1?2:3;", 0);
        b.right(1700, "rule 1?2?3:4:5?6:7;", 0);
        b.right(1700, "check 1?2:3:4;", 1);
        b.faulty(1700, "rule 1?2;", 1, 8);
        b.faulty(1700, "rule 1?:3;", 1, 7);
        b.faulty(1700, "rule ?2:3;", 1, 5);
        b.faulty(1700, "check 1?2:3;", 1, 11);
        b.faulty(1700, "rule 1?2:3:4;", 1, 10);
    }

    private static void oneComparison(Bench b) {
        for (String one : List.of("=", "<", ">")) {
            b.right(1700, "rule 1" + one + "2;", 0);
            b.faulty(1700, "rule 1" + one + ";", 1, 7);
            for (String other : List.of("=", "<", ">")) {
                b.faulty(1700, "rule 1" + one + "2" + other + "3;", 1, 8);
            }
            b.right(1700, "rule (1" + one + "2)" + one + "3;", 0);
        }
    }

    private static void sumGrammar(Bench b) {
        for (String sign : List.of("+", "-", "*", "/", "%")) {
            right("rule 1" + (sign + "1").repeat(440) + ";", 0);
            faulty("rule 1" + (sign + "1").repeat(440) + sign + ";", 1, 6 + 880 + 1);
            b.faulty(1700, "rule 1" + sign + "+1;", 1, 7);
            b.faulty(1700, "rule 1" + sign + "*1;", 1, 7);
        }
        b.right(1700, "rule 1+2*3-4/5%6;", 0);
        b.faulty(1700, "rule *1;", 1, 5);
        b.faulty(1700, "rule 1 1;", 1, 7);
    }

    private static void operandGrammar(Bench b) {
        for (String operand : List.of("1", "a", "a[1]", "a[a[1]]", "1701.a", "1701.a[1]", "tons", "cargo", "lock", "day", "(1)", "((1?2:3))")) {
            b.right(1700, "rule " + operand + ";", 0);
            b.right(1700, "rule -" + operand + ";", 0);
            b.faulty(1700, "rule " + operand + " 2;", 1, 6 + operand.length());
        }
        b.right(1700, "table t 1=at;", 1);
        b.faulty(1700, "rule 1[1];", 1, 6);
        b.faulty(1700, "rule (1)[1];", 1, 8);
        b.faulty(1700, "rule a[1][1];", 1, 9);
        b.faulty(1700, "rule a[1;", 1, 8);
        b.faulty(1700, "rule a[1);", 1, 8);
        b.faulty(1700, "rule (1];", 1, 7);
        b.faulty(1700, "rule 1701.;", 1, 10);
        b.faulty(1700, "rule 1701.1702.a;", 1, 10);
        b.faulty(1700, "rule 1701.a.b;", 1, 11);
        b.faulty(1700, "rule .a;", 1, 5);
        b.faulty(1700, "rule {1};", 1, 5);
    }

    private static void oneMinus(Bench b) {
        b.right(1700, "rule -1--1*-1/-1%-1=-(-1);", 0);
        b.faulty(1700, "rule --1;", 1, 6);
        b.faulty(1700, "rule 1---1;", 1, 8);
        b.faulty(1700, "rule +1;", 1, 5);
        b.faulty(1700, "rule 1*/1;", 1, 7);
        b.faulty(1700, "rule -;", 1, 6);
        b.faulty(1700, "rule ();", 1, 6);
        b.faulty(1700, "rule t[];", 1, 7);
    }

    /** The E of a check is the first that is open, so that eleven stand in it. */
    private static void openByBrackets(Bench b) {
        b.right(1700, "check " + Texts.within(11, "(", "1", ")") + ":1;", 1);
        b.faulty(1700, "check " + Texts.within(12, "(", "1", ")") + ":1;", 1, 6 + 12);
        b.right(1700, "check " + Texts.within(11, "t[", "1", "]") + ":1;", 1);
        b.faulty(1700, "check " + Texts.within(12, "t[", "1", "]") + ":1;", 1, 6 + 24);
        b.right(1700, "check " + Texts.within(11, "1701.t[", "1", "]") + ":1;", 1);
        b.faulty(1700, "check " + Texts.within(12, "1701.t[", "1", "]") + ":1;", 1, 6 + 84);
        b.right(1700, "rule " + Texts.within(11, "(", "1", ")") + ";", 0);
        b.faulty(1700, "rule " + Texts.within(12, "(", "1", ")") + ";", 1, 5 + 12);
        b.right(1700, "table t 1=" + Texts.within(11, "(", "1", ")") + ";", 1);
        b.faulty(1700, "table t 1=" + Texts.within(12, "(", "1", ")") + ";", 1, 10 + 12);
        b.right(1700, "try{check " + Texts.within(11, "-(", "1", ")") + ":1;}else{}", 2);
        b.faulty(1700, "try{check " + Texts.within(12, "-(", "1", ")") + ":1;}else{}", 1, 10 + 24);
    }

    private static void openByChoices(Bench b) {
        b.right(1700, "check " + Texts.within(11, "1?", "2", ":3") + ":1;", 1);
        b.faulty(1700, "check " + Texts.within(12, "1?", "2", ":3") + ":1;", 1, 6 + 24);
        b.right(1700, "check " + "1?2:".repeat(11) + "3:1;", 1);
        b.faulty(1700, "check " + "1?2:".repeat(12) + "3:1;", 1, 6 + 44 + 2);
        b.right(1700, "check " + Texts.within(3, "(t[1?", "((1))", ":2])") + ":1;", 1);
        b.faulty(1700, "check " + Texts.within(3, "(t[1?", "(((1)))", ":2])") + ":1;", 1, 6 + 15 + 3);
        b.right(1700, "check 1?" + Texts.within(10, "(", "1", ")") + ":" + Texts.within(10, "(", "1", ")") + ":1;", 1);
        b.faulty(1700, "check 1?2:" + Texts.within(11, "(", "1", ")") + ":1;", 1, 10 + 11);
        b.right(1700, "check " + Texts.within(11, "(", "1", ")") + "?2:3:1;", 1);
        b.faulty(1700, "check " + Texts.within(11, "(", "1?2:3", ")") + ":1;", 1, 6 + 11 + 2);
    }

    private static void closedOnesAreNotOpen(Bench b) {
        String deep = Texts.within(11, "(", "1", ")");
        String deeper = Texts.within(12, "(", "1", ")");
        for (String sign : List.of("+", "-", "*", "/", "%", "=", "<", ">")) {
            b.right(1700, "rule " + deep + sign + deep + ";", 0);
            b.faulty(1700, "rule " + deep + sign + deeper + ";", 1, 5 + 23 + 1 + 12);
        }
        b.right(1700, "rule " + deep + ";check " + deep + ":1;table t 1=" + deep + "+t[" + Texts.within(10, "(", "1", ")") + "];", 2);
        b.right(1700, "rule " + "(1)+".repeat(100) + "t[1]" + "+t[1]".repeat(60) + ";", 0);
    }

    private static void openTries(Bench b) {
        b.right(1700, Texts.within(3, "try{", "", "}else{}"), 3);
        b.faulty(1700, Texts.within(4, "try{", "", "}else{}"), 1, 12);
        b.right(1700, Texts.within(3, "try{}else{", "", "}"), 3);
        b.faulty(1700, Texts.within(4, "try{}else{", "", "}"), 1, 30);
        b.right(1700, "try{}else{}".repeat(5), 5);
        b.right(1700, Texts.within(2, "try{", "try{}else{}try{}else{}", "}else{}"), 4);
        b.right(1700, Texts.within(3, "try{", "check 1:1;table t 1=1;", "}else{}"), 5);
        b.faulty(1700, Texts.within(3, "try{", "check 1:1;try{}else{}", "}else{}"), 1, 22);
        b.right(1700, "try{try{try{}else{}}else{}}else{try{try{}else{}}else{}}", 5);
        b.faulty(1700, "try{try{try{}else{}}else{}}else{try{try{try{}else{}}else{}}else{}}", 1, 40);
    }

    private static void furtherOnes(Bench b) {
        String twelve = "rule " + "(".repeat(12);
        for (String token : List.of("1", "a", "abcdefghi", "(", ")", "-1", "tons", ";", "!", "1701.a", "")) {
            b.faulty(1700, twelve + token, 1, 17);
        }
        b.faulty(1700, twelve + "  \n 1", 1, 21);
        b.faulty(1700, twelve + "  \n ", 1, 21);
        b.faulty(1700, "try{".repeat(3) + "  try{}else{}", 1, 14);
        b.faulty(1700, "try{".repeat(3) + "  table", 1, 19);
        b.faulty(1700, "check at:1;" + twelve + "1", 1, 28);
    }

    private static void places(Bench b) {
        b.faulty(1700, "  \n const\n a = 1 ; const \n a=2;", 2, 27);
        b.faulty(1700, "under  \n 1730 ;", 3, 9);
        b.faulty(1700, "rule 1+ - 1730 . a;", 3, 10);
        b.faulty(1700, "table t  \n13=1;", 4, 10);
        b.faulty(1700, "check 1 : \n 801;", 4, 12);
        b.faulty(1700, Texts.consts(8) + " \n const i=1;", 5, 91);
        b.faulty(1700, "check - \n at:1;", 6, 10);
        b.faulty(1700, "rule 1;  rule 2;", 2, 9);
        b.faulty(1700, "rule 1;  rules 2;", 1, 9);
        b.faulty(1700, "at", 1, 0);
        b.faulty(1700, "check at:1;", 6, 6);
    }

    private static final String[] WHOLE = ("under 1701 ; const a = - 1702 . b * 2 + c ; try { table t 2 = at ; } else { "
        + "check 1 ? 2 : ( 3 ) = 4 : 5 ; } rule u [ day ] ;").split(" ");

    /** The text's first tokens, and whether they are a sheet by themselves: behind each part of it they are. */
    private static String firstTokens(int n) {
        StringBuilder text = new StringBuilder();
        for (int i = 0; i < n; i++) {
            text.append(WHOLE[i]).append(' ');
        }
        return text.toString();
    }

    private static boolean isWhole(int tokens) {
        return tokens == 0 || tokens == 3 || tokens == 15 || tokens == 40 || tokens == 46;
    }

    private static void endOfText(Bench b) {
        Bench.due(46, WHOLE.length, "tokens");
        for (int n = 0; n <= WHOLE.length; n++) {
            String text = firstTokens(n);
            if (isWhole(n)) {
                right(text, n >= 40 ? 3 : 0);
            } else {
                faulty(text, 1, text.length());
                faulty(text.trim(), 1, text.length() - 1);
            }
        }
        b.faulty(1700, "rule", 1, 4);
        b.faulty(1700, "rule 1", 1, 6);
    }

    private static void brokenAnywhere(Bench b) {
        for (int n = 0; n <= WHOLE.length; n++) {
            String text = firstTokens(n);
            for (String token : List.of("!", "\t", "\u00ff", "\0", "abcdefghi", "1234567890", "A")) {
                faulty(text + token + " ;", 1, text.length());
            }
            boolean opens = n > 0 && (WHOLE[n - 1].equals("try") || WHOLE[n - 1].equals("else"));
            if (!opens) {
                faulty(text + "{", 1, text.length());
            }
            if (n > 0) {
                faulty(text + "under", 1, text.length());
            }
        }
        b.faulty(1700, "! !", 1, 0);
    }

    /** Parts with one fault each: the text, the fault, its place in it. */
    private static final Object[][] PARTS = {
        {"const a=1;const a=2;", 2, 16},
        {"check 1730.x:1;", 3, 6},
        {"check 1:0;", 4, 8},
        {Texts.tables(7), 5, 78},
        {"check at:1;", 6, 6},
    };

    private static void firstByPlaces(Bench b) {
        for (Object[] one : PARTS) {
            for (Object[] other : PARTS) {
                if (one != other) {
                    faulty((String) one[0] + other[0], (int) one[1], (int) one[2]);
                }
            }
            faulty(Texts.checks(3) + one[0], (int) one[1], 30 + (int) one[2]);
        }
        b.faulty(1700, "table t 0=1730.a+day;", 4, 8);
        b.faulty(1700, "table t 1=1730.a+day;", 3, 10);
        b.faulty(1700, "table t 1=1701.a+day;", 6, 17);
        b.right(1700, "table t 1=1701.a+at;", 1);
        b.faulty(1700, "check at:0;", 6, 6);
        b.faulty(1700, "check 1730.a[at]:0;", 3, 6);
    }

    private static void brokenAheadOfAll(Bench b) {
        for (Object[] one : PARTS) {
            String text = (String) one[0];
            faulty(text + "!", 1, text.length());
            faulty(text + "rule", 1, text.length() + 4);
            faulty(text, (int) one[1], (int) one[2]);
        }
        b.faulty(1700, "under 1700;check at:0;!", 1, 22);
        b.faulty(1700, "under 1700;check at:0;", 3, 6);
    }

    private static void nothingElseOfTooMany(Bench b) {
        b.faulty(1700, Texts.consts(8) + "const ca=1730.x;", 5, 88);
        b.faulty(1700, Texts.tables(6) + "table ta 0=day+1730.x;", 5, 78);
        b.faulty(1700, Texts.checks(40) + "check at+1730.x:0;", 5, 400);
        b.faulty(1700, Texts.checks(40) + "try{table t 0=day;check at:0;}else{table t 13=tons;}", 5, 400);
        b.faulty(1700, Texts.tables(6) + Texts.checks(34) + "table ta 0=day;", 5, 418);
        b.faulty(1700, Texts.consts(8) + "const ca=!;", 1, 97);
        b.faulty(1700, Texts.checks(40) + "check 1:", 1, 408);
    }

    private static void namesTwice(Bench b) {
        b.right(1700, "const a=1;const b=1;table c 1=1;table d 1=1;", 2);
        b.faulty(1700, "const a=1;const a=1;", 2, 16);
        b.faulty(1700, "const a=1;table a 1=1;", 2, 16);
        b.faulty(1700, "table a 1=1;const a=1;", 2, 18);
        b.faulty(1700, "table a 1=1;table a 1=1;", 2, 18);
        b.right(1700, "const b=a;const a=b;rule a+c[0]+c;", 0);
        b.right(1701, "under 1700;const a=1;table b 1=1;", 1);
        b.faulty(1700, Texts.consts(7) + Texts.tables(6) + "const ca=1;", 2, 77 + 78 + 6);
        b.faulty(1700, Texts.consts(7) + Texts.tables(6) + "const tf=1;", 2, 77 + 78 + 6);
        b.right(1700, Texts.consts(7) + Texts.tables(6) + "const tg=1;", 6);
        b.faulty(1700, Texts.consts(8) + Texts.tables(5) + "table ch 1=1;", 2, 88 + 65 + 6);
        b.right(1700, Texts.consts(8) + Texts.tables(5) + "table ci 1=1;", 6);
    }

    private static void namesTwiceInTries(Bench b) {
        b.faulty(1700, "try{table a 1=1;table a 1=1;}else{}", 2, 22);
        b.faulty(1700, "try{table a 1=1;}else{table a 1=1;}", 2, 28);
        b.faulty(1700, "try{table a 1=1;}else{}table a 1=1;", 2, 29);
        b.faulty(1700, "try{table a 1=1;}else{}const a=1;", 2, 29);
        b.faulty(1700, "const a=1;try{}else{table a 1=1;}", 2, 26);
        b.faulty(1700, "try{try{try{table a 1=1;}else{}}else{}}else{table a 1=1;}", 2, 50);
        b.right(1700, "try{table a 1=1;}else{table b 1=1;}const c=1;", 3);
    }

    private static void secondRule(Bench b) {
        b.right(1700, "rule 1;", 0);
        b.faulty(1700, "rule 1;rule 1;", 2, 7);
        b.faulty(1700, "check 1:1;rule 1;const a=1;rule 1730.a;", 2, 27);
        b.faulty(1700, "rule 1;rule 2;rule 3;", 2, 7);
        b.right(1701, "rule 1;", 0);
    }

    private static void wrongYears(Bench b) {
        List<String> texts = List.of("under #;", "const a=#.a;", "const a=1-#.a*2;", "rule #.a;", "check 1:1;check -#.a:1;",
            "table t 1=t[#.a[0]];", "try{}else{check 1?1:#.a:1;}");
        for (String text : texts) {
            Bench each = new Bench();
            int place = text.indexOf('#');
            String open = text.substring(0, place);
            String rest = text.substring(place + 1);
            for (String year : List.of("1699", "1730", "0", "170", "17000", "999999999", "1669", "1732")) {
                each.faulty(1705, open + year + rest, 3, place);
            }
            for (String year : List.of("1700", "1704", "1706", "1729", "00001729")) {
                each.put(1705, open + year + rest);
                Bench.due(0, each.fault(0), open + year + rest);
            }
        }
        b.right(1705, "rule 1730;check 1699:1;", 1);
        b.faulty(1705, "rule 1730.a;", 3, 5);
    }

    private static void ownYear(Bench b) {
        for (int year : new int[] {1700, 1715, 1729}) {
            int other = year == 1700 ? 1701 : year - 1;
            b.faulty(year, "under " + year + ";", 3, 6);
            b.right(year, "under " + other + ";", 0);
            b.faulty(year, "const a=" + year + ".a;", 3, 8);
            b.right(year, "const a=" + other + ".a;", 0);
            b.faulty(year, "rule " + year + ".a[0];", 3, 5);
            b.right(year, "rule " + other + ".a[0]+" + year + ";", 0);
        }
    }

    private static void tableNumbers(Bench b) {
        b.faulty(1700, "table t 0=1;", 4, 8);
        b.faulty(1700, "table t 000=1;", 4, 8);
        b.right(1700, "table t 1=1;", 1);
        b.right(1701, "table t 12=1;", 1);
        b.faulty(1700, "table t 13=1;", 4, 8);
        b.faulty(1700, "table t 999999999=1;", 4, 8);
        b.faulty(1700, "try{table t 13=1;}else{}", 4, 12);
        b.issue();
        Bench.due(0, b.entry(1700, 0, 0), "the only entry");
        Bench.due(Bench.NO_VALUE, b.entry(1700, 0, 1), "no second");
        Bench.due(0, b.entry(1701, 0, 11), "the twelfth");
        Bench.due(Bench.NO_VALUE, b.entry(1701, 0, 12), "no thirteenth");
    }

    private static void checkNumbers(Bench b) {
        b.faulty(1700, "check 0:0;", 4, 8);
        b.faulty(1700, "check 0:000;", 4, 8);
        b.right(1700, "check 0:1;", 1);
        b.right(1701, "check 0:800;", 1);
        b.faulty(1700, "check 0:801;", 4, 8);
        b.faulty(1700, "check 0:999999999;", 4, 8);
        b.faulty(1700, "try{}else{check 0:801;}", 4, 18);
        b.issue();
        Bench.due(1, b.need(1700), "the least");
        Bench.due(800, b.need(1701), "the most");
    }

    private static void eightConsts(Bench b) {
        b.right(1700, Texts.consts(7), 0);
        b.right(1700, Texts.consts(8), 0);
        Bench.due(8, b.state(1700, 4), "eight");
        b.faulty(1700, Texts.consts(9), 5, 88);
        b.faulty(1700, Texts.consts(20), 5, 88);
        b.faulty(1700, Texts.consts(4) + Texts.tables(6) + Texts.named("const d?=1;", 5), 5, 44 + 78 + 44);
        b.right(1700, Texts.consts(4) + Texts.tables(6) + "rule 1;" + Texts.named("const d?=1;", 4), 6);
        Bench.due(8, b.state(1700, 4), "eight");
    }

    private static void sixTables(Bench b) {
        b.right(1700, Texts.tables(5), 5);
        b.right(1700, Texts.tables(6), 6);
        Bench.due(6, b.state(1700, 5), "six");
        b.faulty(1700, Texts.tables(7), 5, 78);
        b.faulty(1700, Texts.tables(20), 5, 78);
        b.right(1700, "try{" + Texts.tables(3) + "}else{" + Texts.named("table u? 1=1;", 3) + "}", 7);
        Bench.due(6, b.state(1700, 5), "six, in both parts of a try");
        b.faulty(1700, "try{" + Texts.tables(3) + "}else{" + Texts.named("table u? 1=1;", 4) + "}", 5, 4 + 39 + 6 + 39);
        b.faulty(1700, "try{" + Texts.tables(6) + "}else{}table u 1=1;", 5, 4 + 78 + 7);
    }

    private static void fortySteps(Bench b) {
        b.right(1700, Texts.checks(39), 39);
        b.right(1700, Texts.checks(40), 40);
        b.faulty(1700, Texts.checks(41), 5, 400);
        right(Texts.checks(40) + Texts.consts(8) + "rule 1;", 40);
        right(Texts.checks(34) + Texts.tables(6), 40);
        faulty(Texts.checks(35) + Texts.tables(6), 5, 350 + 65);
        faulty(Texts.tables(6) + Texts.checks(35), 5, 78 + 340);
        right("try{}else{}".repeat(40), 40);
        faulty("try{}else{}".repeat(41), 5, 440);
        right("try{" + Texts.checks(20) + "}else{" + Texts.checks(19) + "}", 40);
        faulty("try{" + Texts.checks(20) + "}else{" + Texts.checks(20) + "}", 5, 4 + 200 + 6 + 190);
        right(Texts.within(3, "try{", Texts.checks(37), "}else{}"), 40);
        faulty(Texts.within(3, "try{", Texts.checks(38), "}else{}"), 5, 12 + 370);
        faulty(Texts.checks(40) + "try{}else{}", 5, 400);
        right(Texts.checks(39) + "try{}else{}", 40);
    }

    private static void atOutside(Bench b) {
        b.right(1700, "table t 1=at;", 1);
        b.right(1700, "table t 1=-at+t[at]*(at)+1701.t[at?at:at];", 1);
        b.right(1700, "try{table t 1=at;}else{table u 1=at;}", 3);
        b.faulty(1700, "check at:1;", 6, 6);
        b.faulty(1700, "rule at;", 6, 5);
        b.faulty(1700, "rule t[at];", 6, 7);
        b.faulty(1700, "table t 1=at;check at:1;", 6, 19);
        b.faulty(1700, "table t 1=at;rule at;", 6, 18);
        b.faulty(1700, "try{check at:1;}else{}", 6, 10);
        b.faulty(1700, "try{table t 1=at;}else{check at:1;}", 6, 29);
        b.faulty(1700, "const a=at;", 1, 8);
    }

    private static void settingsOutside(Bench b) {
        for (String word : List.of("tons", "cargo", "lock", "day")) {
            Bench each = new Bench();
            each.right(1700, "rule " + word + ";", 0);
            each.right(1700, "rule -(" + word + ")+t[" + word + "]*1701.t[1?" + word + ":" + word + "];", 0);
            each.faulty(1700, "check " + word + ":1;", 6, 6);
            each.faulty(1700, "table t 1=" + word + ";", 6, 10);
            each.faulty(1700, "rule " + word + ";check " + word + ":1;", 6, 12 + word.length());
            each.faulty(1700, "try{}else{table t 1=1+" + word + ";}", 6, 22);
            each.faulty(1700, "const a=" + word + ";", 1, 8);
        }
        b.right(1700, "rule tons+cargo+lock+day;", 0);
        b.faulty(1700, "rule tons+cargo+lock+day+at;", 6, 25);
    }
}
