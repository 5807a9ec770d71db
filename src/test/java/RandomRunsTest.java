import java.util.Random;

/** Runs of calls from fixed seeds: the program against the model. */
public final class RandomRunsTest {
    private static final String[] CONST_NAMES = {"a", "b", "c", "dd", "e", "harbour"};
    private static final String[] TABLE_NAMES = {"t", "u", "v", "ww", "a"};
    private static final int[] ODD_YEARS = {1699, 1730, 0, -1, 1729, Integer.MAX_VALUE, Integer.MIN_VALUE};

    private final Random random;
    private final int years;
    private final boolean tame;
    /** Most names are there, and most starts come to their end. */
    private final boolean healthy;

    private RandomRunsTest(long seed) {
        random = new Random(seed);
        years = 2 + random.nextInt(random.nextInt(6) == 0 ? 29 : 6);
        tame = random.nextInt(4) > 0;
        healthy = tame && random.nextInt(4) > 0;
    }

    public static void main(String[] args) {
        long first = args.length > 0 ? Long.parseLong(args[0]) : 1;
        long runs = args.length > 1 ? Long.parseLong(args[1]) : 1500;
        for (long seed = first; seed < first + runs && Bench.wrongs() < 5; seed++) {
            int before = Bench.wrongs();
            new RandomRunsTest(seed).run();
            if (Bench.wrongs() > before) {
                System.out.println("seed " + seed);
            }
        }
        Bench.close("RandomRunsTest");
    }

    private void run() {
        Bench bench = new Bench();
        for (int i = 0; i < years; i++) {
            if (chance(healthy ? 97 : 80)) {
                bench.put(1700 + i, sheet(1700 + i));
            }
        }
        bench.issue();
        while (bench.callCount() < 500) {
            call(bench);
        }
        look(bench);
    }

    private void call(Bench bench) {
        int year = year();
        switch (random.nextInt(24)) {
            case 0: case 1:
                bench.put(year, sheet(year));
                bench.fault(0);
                bench.fault(1);
                break;
            case 2: bench.put(year, spoiled(sheet(year))); bench.fault(0); bench.fault(1); break;
            case 3:
                if (!healthy || chance(15)) {
                    bench.forget(year);
                }
                break;
            case 4: case 5: bench.issue(); break;
            case 6: case 7: case 8: bench.need(year); break;
            case 9: bench.state(year, random.nextInt(10) - 1); break;
            case 10: bench.leans(year, year()); break;
            case 11: bench.constant(year, random.nextInt(10) - 1); break;
            case 12: case 13: bench.entry(year, random.nextInt(8) - 1, random.nextInt(14) - 1); break;
            case 14: bench.started(random.nextInt(20) - 1); break;
            case 15: bench.voyage(chance(90) ? random.nextInt(1000) : odd(), chance(90) ? random.nextInt(10) : odd()); break;
            case 16: case 17: case 18:
                bench.lock(random.nextInt(healthy ? 12 : 4), chance(95) ? random.nextInt(100) : odd(), year, chance(95) ? 1 + random.nextInt(366) : odd());
                break;
            case 19: case 20: bench.bill(random.nextInt(healthy ? 12 : 5) - 1); break;
            case 21: bench.line(random.nextInt(healthy ? 12 : 5) - 1, random.nextInt(11) - 1); break;
            case 22: bench.count(random.nextInt(7) - 1); break;
            default: bench.end(random.nextInt(30) - 2); break;
        }
    }

    private void look(Bench bench) {
        for (int year = 1700; year < 1700 + years; year++) {
            for (int what = 0; what < 8; what++) {
                bench.state(year, what);
                bench.constant(year, what);
            }
            for (int table = 0; table < 6; table++) {
                for (int i = 0; i < 12; i++) {
                    bench.entry(year, table, i);
                }
            }
        }
        for (int i = 0; i < 310; i++) {
            bench.started(i);
        }
        for (int i = 0; i < 120; i++) {
            bench.line(i % 12, i / 12);
            bench.count(i % 5);
        }
    }

    private boolean chance(int percent) {
        return random.nextInt(100) < percent;
    }

    private int odd() {
        int[] all = {-1, 0, 10, 99, 100, 366, 367, 100000, 100001, Integer.MIN_VALUE, Integer.MAX_VALUE};
        return all[random.nextInt(all.length)];
    }

    private int year() {
        return chance(97) ? 1700 + random.nextInt(years) : ODD_YEARS[random.nextInt(ODD_YEARS.length)];
    }

    private String of(String[] all) {
        return all[random.nextInt(all.length)];
    }

    private int otherYear(int own) {
        int year = 1700 + random.nextInt(years);
        return year != own || !tame && chance(3) ? year : 1700 + (year - 1699) % years;
    }

    private String constName() {
        return healthy && chance(95) ? CONST_NAMES[random.nextInt(2)] : of(CONST_NAMES);
    }

    private String sheet(int own) {
        StringBuilder text = new StringBuilder();
        if (chance(45)) {
            text.append("under ").append(otherYear(own)).append(';');
        }
        if (healthy) {
            text.append(wholesome(own));
        }
        int parts = random.nextInt(healthy ? 3 : 6);
        boolean rule = chance(50);
        for (int i = 0; i < parts; i++) {
            if (chance(35)) {
                text.append("const ").append(tame ? CONST_NAMES[healthy ? i + 3 : i] : of(CONST_NAMES)).append('=').append(sum(own)).append(';');
            } else if (rule && chance(40)) {
                text.append("rule ").append(choice(own, 0, "rule")).append(';');
                rule = chance(2);
            } else {
                text.append(step(own, 0, i));
            }
        }
        return text.length() > 880 ? text.substring(0, 880) : text.toString();
    }

    private String wholesome(int own) {
        StringBuilder text = new StringBuilder();
        text.append(chance(50) ? "const a=" + random.nextInt(9) + ";const b=a*" + sum(own) + ";" : "const a=4;const b=3-a;const c=7;");
        text.append("table t ").append(3 + random.nextInt(3)).append('=').append(choice(own, 2, "table")).append(';');
        if (chance(40)) {
            text.append("rule ").append(choice(own, 1, "rule")).append(';');
        }
        text.append(chance(50) ? "table u 3=" + choice(own, 1, "table") + ";" : "");
        return text.toString();
    }

    private String sum(int own) {
        StringBuilder text = new StringBuilder(factor(own));
        while (chance(40)) {
            text.append(chance(40) ? "*" : chance(50) ? "+" : "-").append(factor(own));
        }
        return text.toString();
    }

    private String factor(int own) {
        String minus = chance(15) ? "-" : "";
        if (chance(50)) {
            return minus + (chance(30) ? random.nextInt(1000000000) : random.nextInt(20));
        }
        return minus + (chance(40) ? otherYear(own) + "." : "") + constName();
    }

    private String step(int own, int tries, int number) {
        int sort = random.nextInt(100);
        if (sort < 20 && tries < (chance(2) ? 4 : 3)) {
            return "try{" + steps(own, tries + 1, number) + "} else{" + steps(own, tries + 1, number + 1) + "}";
        }
        if (sort < 45) {
            String limit = tame || chance(95) ? "" + (1 + random.nextInt(800)) : "" + random.nextInt(900);
            return "check " + (healthy && chance(60) ? "1+" : "") + choice(own, 0, "") + ":" + limit + ";";
        }
        String name = tame ? TABLE_NAMES[Math.min(healthy ? number + 2 : number, 3)] : of(TABLE_NAMES);
        int size = tame ? 1 + random.nextInt(5) : random.nextInt(14);
        return "table " + name + " " + size + "=" + choice(own, 0, "table") + ";\n";
    }

    private String steps(int own, int tries, int number) {
        StringBuilder text = new StringBuilder();
        for (int i = random.nextInt(3); i > 0; i--) {
            text.append(step(own, tries, number + i));
        }
        return text.toString();
    }

    private String choice(int own, int depth, String context) {
        String first = comparison(own, depth, context);
        if (depth > 2 || chance(85)) {
            return first;
        }
        return first + "?" + choice(own, depth + 1, context) + ":" + choice(own, depth + 1, context);
    }

    private String comparison(int own, int depth, String context) {
        String left = terms(own, depth, context);
        return chance(15) ? left + "=<>".charAt(random.nextInt(3)) + terms(own, depth, context) : left;
    }

    private String terms(int own, int depth, String context) {
        StringBuilder text = new StringBuilder(operand(own, depth, context));
        while (chance(35)) {
            text.append("++--**/%".charAt(random.nextInt(8))).append(operand(own, depth, context));
        }
        return text.toString();
    }

    private String operand(int own, int depth, String context) {
        String minus = chance(8) ? "-" : "";
        int sort = random.nextInt(100);
        if (sort < 25 || depth > 3 && sort > 40) {
            return minus + (chance(10) ? random.nextInt(1000000000) : random.nextInt(6));
        }
        if (sort < 40 && !context.isEmpty() || chance(1)) {
            String[] words = {"tons", "cargo", "lock", "day"};
            return minus + (context.equals("table") || chance(tame ? 0 : 3) ? "at" : of(words));
        }
        String year = chance(45) ? otherYear(own) + "." : "";
        if (sort < 52) {
            return minus + year + constName();
        }
        if (sort < 92) {
            String index = chance(70) ? context.equals("table") && chance(50) ? healthy ? "at%3" : "at" : "" + random.nextInt(3)
                : choice(own, depth + 1, context);
            return minus + year + (healthy && chance(95) ? TABLE_NAMES[chance(70) ? 0 : 1] : of(TABLE_NAMES)) + "[" + index + "]";
        }
        return minus + "(" + choice(own, depth + 1, context) + ")";
    }

    private String spoiled(String text) {
        StringBuilder spoiled = new StringBuilder(text);
        String bytes = "{}[]();:=<>+-*/%?. \nabtz019A!\0\t\u00ff";
        for (int i = 1 + random.nextInt(2); i > 0; i--) {
            int place = random.nextInt(spoiled.length() + 1);
            if (chance(40) && place < spoiled.length()) {
                spoiled.deleteCharAt(place);
            } else if (chance(50)) {
                spoiled.insert(place, bytes.charAt(random.nextInt(bytes.length())));
            } else {
                String[] more = ModelTokens.WORDS.toArray(new String[0]);
                java.util.Arrays.sort(more);
                spoiled.insert(place, " " + more[random.nextInt(more.length)] + " ");
            }
        }
        return spoiled.length() > 890 ? spoiled.substring(0, 890) : spoiled.toString();
    }
}
