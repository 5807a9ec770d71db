/** Promises 4 and 5: sheet and fault, with the grammar and all faults of term 1. */
public final class SheetTest {
    public static void main(String[] args) {
        rightTexts();
        tokens();
        brokenTexts();
        depthOfChoices();
        depthOfTries();
        namesTwice();
        namesApart();
        years();
        numbers();
        tooMany();
        words();
        firstOfAll();
        faultAnswers();
        Bench.close("SheetTest");
    }

    private static String times(String text, int n) {
        return text.repeat(n);
    }

    private static void rightTexts() {
        Bench b = new Bench();
        b.right(1700, "", 0);
        b.right(1700, " \n ", 0);
        b.right(1700, "under 1701;", 0);
        b.right(1700, "rule 1;", 0);
        b.right(1700, "const a=-1*-b+1701.c-2;", 0);
        b.right(1700, "check 1=2?3:4<5?6:7>8:9;", 1);
        b.right(1700, "check -1*-2/-3%-4+-5--6:9;", 1);
        b.right(1700, "try{}else{}", 1);
        b.right(1700, "try{check 1:1;}else{try{table t 1=1;}else{}}", 4);
        b.right(1700, "table t 12=t[at]+1701.u[t[at+1]]+(at)+k+1701.k;", 1);
        b.right(1700, "rule tons*cargo-lock/day%x;", 0);
        b.right(1700, "rule 1;check 1:800;const a=1;table b 1=1;", 2);
    }

    private static void tokens() {
        Bench b = new Bench();
        b.right(1700, "table abcdefgh 3=at;", 1);
        b.right(1700, "table t3=at;", 1);
        b.right(1700, "const\na\n=\n999999999\n;\n", 0);
        b.right(1700, "const a=000000001;", 0);
        b.right(1700, "table t 000000012=1;", 1);
        b.right(1700, "check 000001701 . a:1;", 1);
        b.right(1700, "check 1:1;check 1:2 ; check 1 :3;", 3);
        b.right(1700, "const attable=1;", 0);
        b.faulty(1700, "const abcdefghi=1;", 1, 6);
        b.faulty(1700, "const a=1000000000;", 1, 8);
        b.faulty(1700, "const a=0000000001;", 1, 8);
        b.faulty(1700, "const a=1;\t", 1, 10);
        b.faulty(1700, "const a=1;\0", 1, 10);
        b.faulty(1700, "const a=1;\r", 1, 10);
        b.faulty(1700, "const A=1;", 1, 6);
        b.faulty(1700, "const aB=1;", 1, 7);
        b.faulty(1700, "const a=1;!", 1, 10);
        b.faulty(1700, "const a=1;\u00a0", 1, 10);
        b.faulty(1700, "constx a=1;", 1, 0);
        b.faulty(1700, "const a=1 2;", 1, 10);
        b.faulty(1700, "check 1 a:1;", 1, 8);
    }

    private static void brokenTexts() {
        Bench b = new Bench();
        b.faulty(1700, "under", 1, 5);
        b.faulty(1700, "under ", 1, 6);
        b.faulty(1700, "under a;", 1, 6);
        b.faulty(1700, "under 1701", 1, 10);
        b.faulty(1700, "under 1701;under 1702;", 1, 11);
        b.faulty(1700, "check 1:1;under 1701;", 1, 10);
        b.faulty(1700, "const =1;", 1, 6);
        b.faulty(1700, "const a 1;", 1, 8);
        b.faulty(1700, "const a=(1);", 1, 8);
        b.faulty(1700, "const a=--1;", 1, 9);
        b.faulty(1700, "const a=1/2;", 1, 9);
        b.faulty(1700, "const a=t[1];", 1, 9);
        b.faulty(1700, "const a=1701.;", 1, 13);
        b.faulty(1700, "const a=1701.2;", 1, 13);
        b.faulty(1700, "const a=1+;", 1, 10);
        b.faulty(1700, "const a=1=1;", 1, 9);
        b.faulty(1700, "const a=at;", 1, 8);
        b.faulty(1700, "const under=1;", 1, 6);
        b.faulty(1700, "table else 1=1;", 1, 6);
        b.faulty(1700, "table t =1;", 1, 8);
        b.faulty(1700, "table t k=1;", 1, 8);
        b.faulty(1700, "table t 1 1;", 1, 10);
        b.faulty(1700, "table t 1=;", 1, 10);
        b.faulty(1700, "table t 1=1:1;", 1, 11);
        b.faulty(1700, "check 1;", 1, 7);
        b.faulty(1700, "check 1:k;", 1, 8);
        b.faulty(1700, "check 1=2=3:1;", 1, 9);
        b.faulty(1700, "check 1?2:3;", 1, 11);
        b.faulty(1700, "check 1?2;", 1, 9);
        b.faulty(1700, "check (1:1;", 1, 8);
        b.faulty(1700, "check (1]:1;", 1, 8);
        b.faulty(1700, "check t[1):1;", 1, 9);
        b.faulty(1700, "check t[]:1;", 1, 8);
        b.faulty(1700, "check --1:1;", 1, 7);
        b.faulty(1700, "check 1.:1;", 1, 8);
        b.faulty(1700, "check a.b:1;", 1, 7);
        b.faulty(1700, "check 1 701.b:1;", 1, 8);
        b.faulty(1700, "check rule:1;", 1, 6);
        b.faulty(1700, "rule;", 1, 4);
        b.faulty(1700, "rule", 1, 4);
        b.faulty(1700, "try", 1, 3);
        b.faulty(1700, "try{", 1, 4);
        b.faulty(1700, "try{}{}", 1, 5);
        b.faulty(1700, "try{}else", 1, 9);
        b.faulty(1700, "try{}else{", 1, 10);
        b.faulty(1700, "try{const a=1;}else{}", 1, 4);
        b.faulty(1700, "try{rule 1;}else{}", 1, 4);
        b.faulty(1700, "try{}else{rule 1;}", 1, 10);
        b.faulty(1700, "try{}else{};", 1, 11);
        b.faulty(1700, "else{}", 1, 0);
        b.faulty(1700, "}", 1, 0);
        b.faulty(1700, "  ;", 1, 2);
    }

    private static void depthOfChoices() {
        Bench b = new Bench();
        b.right(1700, "check " + times("(", 11) + "1" + times(")", 11) + ":1;", 1);
        b.faulty(1700, "check " + times("(", 12) + "1" + times(")", 12) + ":1;", 1, 18);
        b.right(1700, "check " + times("t[", 11) + "1" + times("]", 11) + ":1;", 1);
        b.faulty(1700, "check " + times("t[", 12) + "1" + times("]", 12) + ":1;", 1, 30);
        b.right(1700, "check " + times("1?2:", 11) + "3:1;", 1);
        b.faulty(1700, "check " + times("1?2:", 12) + "3:1;", 1, 6 + 2 + 11 * 4);
        b.right(1700, "check " + times("1?", 11) + "3" + times(":4", 11) + ":1;", 1);
        b.faulty(1700, "check " + times("1?", 12) + "3" + times(":4", 12) + ":1;", 1, 6 + 24);
        b.right(1700, "check " + times("(1701.t[", 5) + "(1)" + times("])", 5) + ":1;", 1);
        b.faulty(1700, "check " + times("(1701.t[", 5) + "((1))" + times("])", 5) + ":1;", 1, 6 + 40 + 2);
        b.right(1700, "check " + times("(", 11) + "1" + times(")", 11) + "+" + times("(", 11) + "1" + times(")", 11) + ":1;", 1);
        b.faulty(1700, "rule " + times("(", 12) + ")", 1, 17);
        b.faulty(1700, "rule " + times("(", 12), 1, 17);
        b.faulty(1700, "rule " + times("(", 800), 1, 17);
        b.faulty(1700, "rule " + times("-(", 400), 1, 5 + 24);
    }

    private static void depthOfTries() {
        Bench b = new Bench();
        b.right(1700, "try{try{try{}else{}}else{}}else{}", 3);
        b.faulty(1700, "try{try{try{try{}else{}}else{}}else{}}else{}", 1, 12);
        b.right(1700, "try{}else{try{}else{try{}else{}}}", 3);
        b.faulty(1700, "try{}else{try{}else{try{}else{try{}else{}}}}", 1, 30);
        b.right(1700, "try{try{try{}else{}try{}else{}}else{}}else{try{try{}else{}}else{}}", 6);
        b.faulty(1700, times("try{", 200), 1, 12);
    }

    private static void namesTwice() {
        Bench b = new Bench();
        b.faulty(1700, "const a=1;const a=2;", 2, 16);
        b.faulty(1700, "const a=1;table a 1=1;", 2, 16);
        b.faulty(1700, "table a 1=1;const a=1;", 2, 18);
        b.faulty(1700, "table a 1=1;table a 1=1;", 2, 18);
        b.faulty(1700, "try{table a 1=1;}else{table a 1=1;}", 2, 28);
        b.faulty(1700, "try{table a 1=1;}else{}const a=1;", 2, 29);
        b.faulty(1700, "rule 1;rule 2;", 2, 7);
        b.faulty(1700, "rule 1;const a=1;rule 1;", 2, 17);
        b.right(1700, "const a=1;const aa=1;table aaa 1=1;table b 1=1;", 2);
        b.right(1700, "const aaaaaaaa=1;const aaaaaaab=1;const aaaaaaa=1;", 0);
    }

    private static void namesApart() {
        java.util.Random random = new java.util.Random(5);
        for (int round = 0; round < 60; round++) {
            Bench b = new Bench();
            java.util.Set<String> names = new java.util.LinkedHashSet<>();
            while (names.size() < 14) {
                StringBuilder name = new StringBuilder();
                for (int i = random.nextInt(8); i >= 0; i--) {
                    name.append((char) ('a' + random.nextInt(random.nextBoolean() ? 26 : 3)));
                }
                if (!ModelTokens.WORDS.contains(name.toString())) {
                    names.add(name.toString());
                }
            }
            StringBuilder text = new StringBuilder();
            int number = 0;
            for (String name : names) {
                text.append(number < 8 ? "const " + name + "=1;" : "table " + name + " 1=1;");
                number++;
            }
            b.right(1700, text.toString(), 6);
        }
    }

    private static void years() {
        Bench b = new Bench();
        b.faulty(1705, "under 1699;", 3, 6);
        b.faulty(1705, "under 1730;", 3, 6);
        b.faulty(1705, "under 1705;", 3, 6);
        b.right(1705, "under 1700;", 0);
        b.right(1705, "under 1729;", 0);
        b.faulty(1705, "const a=1705.a;", 3, 8);
        b.faulty(1705, "const a=1+-999999999.a;", 3, 11);
        b.faulty(1705, "check 1705.t[0]:1;", 3, 6);
        b.faulty(1705, "rule 0.t[0];", 3, 5);
        b.faulty(1705, "table t 1=1700.t[1699.a];", 3, 17);
        b.right(1705, "check 1705:1;", 1);
        b.right(1705, "check 1:170;", 1);
    }

    private static void numbers() {
        Bench b = new Bench();
        b.faulty(1700, "table t 0=1;", 4, 8);
        b.faulty(1700, "table t 13=1;", 4, 8);
        b.right(1700, "table t 1=1;table u 12=1;", 2);
        b.faulty(1700, "table t 999999999=1;", 4, 8);
        b.faulty(1700, "check 1:0;", 4, 8);
        b.faulty(1700, "check 1:801;", 4, 8);
        b.right(1700, "check 1:1;check 1:800;", 2);
        b.faulty(1700, "try{check 1:0;}else{}", 4, 12);
    }

    private static void tooMany() {
        Bench b = new Bench();
        StringBuilder consts = new StringBuilder();
        for (char c = 'a'; c < 'i'; c++) {
            consts.append("const ").append(c).append("=1;");
        }
        b.right(1700, consts.toString(), 0);
        b.faulty(1700, consts + "const i=1;", 5, 80);
        b.faulty(1700, consts + "const a=1700.a;", 5, 80);
        b.faulty(1700, consts + "const i=1", 1, 89);
        StringBuilder tables = new StringBuilder();
        for (char c = 'a'; c < 'g'; c++) {
            tables.append("table ").append(c).append(" 1=1;");
        }
        b.right(1700, tables.toString(), 6);
        b.faulty(1700, tables + "table g 1=1;", 5, 72);
        b.faulty(1700, tables + "table a 0=tons;", 5, 72);
        b.faulty(1700, tables + "try{table g 1=1;}else{}", 5, 76);
        b.right(1700, tables + "check 1:1;const g=1;", 7);
        b.right(1700, times("check 1:1;", 40), 40);
        b.faulty(1700, times("check 1:1;", 41), 5, 400);
        b.faulty(1700, times("check 1:1;", 40) + "check at:0;", 5, 400);
        b.faulty(1700, times("check 1:1;", 40) + "table t 1=1;", 5, 400);
        b.faulty(1700, times("check 1:1;", 40) + "try{}else{}", 5, 400);
        b.right(1700, times("check 1:1;", 39) + "try{}else{}", 40);
        b.faulty(1700, times("check 1:1;", 39) + "try{check 1:1;}else{}", 5, 394);
        b.right(1700, times("try{}else{}", 40), 40);
        b.faulty(1700, times("try{}else{}", 41), 5, 440);
        b.faulty(1700, times("try{}else{}", 80), 5, 440);
        b.right(1700, times("check 1:1;", 40) + "rule 1;const a=1;", 40);
    }

    private static void words() {
        Bench b = new Bench();
        b.faulty(1700, "check at:1;", 6, 6);
        b.faulty(1700, "rule at;", 6, 5);
        b.faulty(1700, "rule t[at];", 6, 7);
        b.faulty(1700, "table t 1=tons;", 6, 10);
        b.faulty(1700, "table t 1=cargo;", 6, 10);
        b.faulty(1700, "table t 1=lock;", 6, 10);
        b.faulty(1700, "table t 1=1+day;", 6, 12);
        b.faulty(1700, "check tons:1;", 6, 6);
        b.faulty(1700, "rule tons;check tons:1;", 6, 16);
        b.faulty(1700, "table t 1=at;check at:1;", 6, 19);
        b.faulty(1700, "try{check day:1;}else{}", 6, 10);
        b.right(1700, "try{table t 1=at;}else{}rule day;", 2);
    }

    private static void firstOfAll() {
        Bench b = new Bench();
        b.faulty(1700, "check at:0;const a=1;const a=2;", 6, 6);
        b.faulty(1700, "table t 13=1700.a+tons;", 4, 8);
        b.faulty(1700, "rule 1;rule 1700.a;", 2, 7);
        b.faulty(1700, "check at:0;check", 1, 16);
        b.faulty(1700, "under 1700;check at:0;!", 1, 22);
        b.faulty(1700, "under 1700;check at:0;", 3, 6);
        b.faulty(1700, "table t 1=1;table t 0=1699.a;", 2, 18);
    }

    private static void faultAnswers() {
        Bench b = new Bench();
        Bench.due(0, b.fault(0), "fault ahead of all");
        Bench.due(-1, b.fault(1), "place ahead of all");
        b.faulty(1700, "  check at:1;", 6, 8);
        Bench.due(-1, b.fault(2), "another what");
        Bench.due(-1, b.fault(-1), "another what");
        Bench.due(-1, b.fault(Integer.MIN_VALUE), "another what");
        Bench.due(-2, b.sheet(1730), "no year");
        Bench.due(6, b.fault(0), "the fault stays behind -2");
        Bench.due(8, b.fault(1), "its place, too");
        Bench.due(0, b.state(1700, 7), "a fault is no change");
        b.right(1700, "check 1:1;", 1);
        b.faulty(1700, "check", 1, 5);
        Bench.due(0, b.state(1700, 5), "the sheet is the one ahead of the fault");
        b.issue();
        Bench.due(0, b.need(1700), "it is issued");
    }
}
