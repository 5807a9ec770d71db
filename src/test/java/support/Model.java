import java.math.BigInteger;
import java.util.ArrayList;
import java.util.HashSet;
import java.util.List;
import java.util.Map;
import java.util.Set;
import java.util.TreeMap;

/** The document done the long way, with trees, recursion and exceptions, to hold the program's answers against. */
final class Model {
    static final long NO_VALUE = -2000000000000000L;
    private static final BigInteger LIMIT = BigInteger.TEN.pow(15);
    private static final ModelGrammar GRAMMAR = new ModelGrammar();

    private static final class Thrown extends Exception {
        private static final long serialVersionUID = 1L;
        final int code;

        Thrown(int code) {
            super(null, null, false, false);
            this.code = code;
        }
    }

    private static final class Tariff {
        final ModelSheet sheet;
        final int edition;
        int state = 1;
        int thrown = 0;
        int halves = 0;
        final long[][] entries;

        Tariff(ModelSheet sheet, int edition) {
            this.sheet = sheet;
            this.edition = edition;
            entries = new long[sheet.tables.size()][];
            for (int i = 0; i < entries.length; i++) {
                entries[i] = new long[sheet.tables.get(i).number()];
            }
        }
    }

    private record Lock(int number, int year, int day) { }

    private static final class Voyage {
        int tons;
        int cargo;
        final List<Lock> locks = new ArrayList<>();
        List<Long> bill = null;
    }

    private final Map<Integer, ModelSheet> sheets = new TreeMap<>();
    private final Map<Integer, Tariff> classes = new TreeMap<>();
    private final Set<Integer> changed = new HashSet<>();
    private final List<Integer> starts = new ArrayList<>();
    private final List<Voyage> voyages = new ArrayList<>();
    private String tape = "";
    private int edition = 0;
    private int booked = 0;
    private int failed = 0;
    private int fault = 0;
    private int place = -1;
    private Voyage billed;
    private Lock billedLock;

    int feed(int... numbers) {
        if (tape.length() > 880) {
            return -1;
        }
        StringBuilder more = new StringBuilder(tape);
        for (int number : numbers) {
            more.append((char) (number >>> 24)).append((char) (number >> 16 & 255));
            more.append((char) (number >> 8 & 255)).append((char) (number & 255));
        }
        tape = more.toString();
        return tape.length();
    }

    int end(int n) {
        if (n < 0 || n > tape.length()) {
            return -1;
        }
        tape = tape.substring(0, n);
        return n;
    }

    int sheet(int year) {
        if (!isYear(year)) {
            return -2;
        }
        List<ModelTokens.Token> tokens = ModelTokens.of(tape);
        tape = "";
        int wrong = GRAMMAR.firstWrong(tokens);
        if (wrong >= 0) {
            fault = 1;
            place = tokens.get(wrong).place();
            return -1;
        }
        ModelSheet read = new ModelSheet(tokens, year);
        if (!read.faults.isEmpty()) {
            int first = read.faults.stream().min(Integer::compare).get();
            fault = first % 10;
            place = first / 10;
            return -1;
        }
        fault = 0;
        place = -1;
        sheets.put(year, read);
        changed.add(year);
        return read.stepCount;
    }

    int fault(int what) {
        return what == 0 ? fault : what == 1 ? place : -1;
    }

    boolean forget(int year) {
        if (sheets.remove(year) == null) {
            return false;
        }
        changed.add(year);
        return true;
    }

    int issue() {
        edition++;
        Set<Integer> touched = new HashSet<>(changed);
        boolean more = true;
        while (more) {
            more = false;
            for (Map.Entry<Integer, ModelSheet> one : sheets.entrySet()) {
                for (int other : one.getValue().leaning) {
                    more |= touched.contains(other) && touched.add(one.getKey());
                }
            }
        }
        int made = 0;
        for (int year : touched) {
            classes.remove(year);
            if (sheets.containsKey(year)) {
                classes.put(year, new Tariff(sheets.get(year), edition));
                made++;
            }
        }
        changed.clear();
        return made;
    }

    int state(int year, int what) {
        if (!isYear(year)) {
            return -1;
        }
        Tariff tariff = classes.get(year);
        ModelSheet sheet = sheets.get(year);
        switch (what) {
            case 0: return tariff == null ? 0 : tariff.state;
            case 1: return tariff == null ? 0 : tariff.edition;
            case 2: return tariff == null ? 0 : tariff.thrown;
            case 3: return tariff == null ? 0 : tariff.halves;
            case 4: return sheet == null ? 0 : sheet.consts.size();
            case 5: return sheet == null ? 0 : sheet.tables.size();
            case 6: return sheet == null || sheet.under == 0 ? -1 : sheet.under;
            case 7: return changed.contains(year) ? 1 : 0;
            default: return -1;
        }
    }

    boolean leans(int year, int other) {
        return sheets.containsKey(year) && sheets.get(year).leaning.contains(other);
    }

    long constant(int year, int k) {
        Tariff tariff = classes.get(year);
        if (tariff == null || k < 0 || k >= tariff.sheet.consts.size()) {
            return NO_VALUE;
        }
        try {
            return constOf(year, tariff.sheet.consts.get(k), new HashSet<>()).longValue();
        } catch (Thrown none) {
            return NO_VALUE;
        }
    }

    private BigInteger constNamed(int from, String name, Set<String> open) throws Thrown {
        int year = from;
        for (int link = 0; link < 30 && classes.containsKey(year); link++) {
            for (ModelSheet.Const one : classes.get(year).sheet.consts) {
                if (one.name().equals(name)) {
                    return constOf(year, one, open);
                }
            }
            year = classes.get(year).sheet.under;
        }
        throw new Thrown(802);
    }

    private final Map<String, BigInteger> known = new TreeMap<>();
    private int knownEdition = 0;

    private BigInteger constOf(int year, ModelSheet.Const one, Set<String> open) throws Thrown {
        if (knownEdition != edition) {
            known.clear();
            knownEdition = edition;
        }
        String key = year + "." + one.name();
        if (known.containsKey(key)) {
            return known.get(key);
        }
        if (!open.add(key)) {
            throw new Thrown(802);
        }
        BigInteger value = exact(year, one.value(), open);
        open.remove(key);
        known.put(key, value);
        return value;
    }

    private BigInteger exact(int year, ModelSheet.Expr e, Set<String> open) throws Thrown {
        BigInteger value;
        switch (e.kind()) {
            case "number":
                value = BigInteger.valueOf(e.number());
                break;
            case "const":
                value = constNamed(e.year() == 0 ? year : e.year(), e.name(), open);
                break;
            case "neg":
                value = exact(year, e.parts().get(0), open).negate();
                break;
            default:
                BigInteger left = exact(year, e.parts().get(0), open);
                BigInteger right = exact(year, e.parts().get(1), open);
                value = e.kind().equals("+") ? left.add(right) : e.kind().equals("-") ? left.subtract(right) : left.multiply(right);
        }
        if (value.abs().compareTo(LIMIT) > 0) {
            throw new Thrown(802);
        }
        return value;
    }

    long entry(int year, int k, int i) {
        Tariff tariff = classes.get(year);
        if (tariff == null || k < 0 || k >= tariff.entries.length || i < 0 || i >= tariff.entries[k].length) {
            return NO_VALUE;
        }
        return tariff.entries[k][i];
    }

    int need(int year) {
        if (!isYear(year)) {
            return -1;
        }
        try {
            start(year);
            return 0;
        } catch (Thrown thrown) {
            return thrown.code;
        }
    }

    private void start(int year) throws Thrown {
        Tariff tariff = classes.get(year);
        if (tariff == null) {
            throw new Thrown(803);
        }
        if (tariff.state == 3) {
            throw new Thrown(804);
        }
        if (tariff.state != 1) {
            return;
        }
        tariff.state = 4;
        starts.add(year);
        try {
            if (tariff.sheet.under != 0) {
                start(tariff.sheet.under);
            }
            doSteps(year, tariff, tariff.sheet.steps);
            tariff.state = 2;
        } catch (Thrown thrown) {
            tariff.state = 3;
            tariff.thrown = thrown.code;
            throw thrown;
        }
    }

    private void doSteps(int year, Tariff tariff, List<ModelSheet.Step> steps) throws Thrown {
        for (ModelSheet.Step step : steps) {
            if (step.kind().equals("table")) {
                long[] entries = tariff.entries[tableIndex(tariff.sheet, step.name())];
                for (int at = 0; at < entries.length; at++) {
                    entries[at] = work(year, step.value(), at);
                }
            } else if (step.kind().equals("check")) {
                if (work(year, step.value(), 0) == 0) {
                    throw new Thrown(step.number());
                }
            } else {
                try {
                    doSteps(year, tariff, step.steps());
                } catch (Thrown caught) {
                    doSteps(year, tariff, step.otherwise());
                }
            }
        }
    }

    private long work(int year, ModelSheet.Expr e, int at) throws Thrown {
        switch (e.kind()) {
            case "number": return e.number();
            case "at": return at;
            case "tons": return billed.tons;
            case "cargo": return billed.cargo;
            case "lock": return billedLock.number();
            case "day": return billedLock.day();
            case "const": return constNamed(e.year() == 0 ? year : e.year(), e.name(), new HashSet<>()).longValue();
            case "entry": return read(year, e, work(year, e.parts().get(0), at));
            case "neg": return -work(year, e.parts().get(0), at);
            case "?": return work(year, e.parts().get(work(year, e.parts().get(0), at) != 0 ? 1 : 2), at);
            default: break;
        }
        long left = work(year, e.parts().get(0), at);
        long right = work(year, e.parts().get(1), at);
        switch (e.kind()) {
            case "+": return left + right;
            case "-": return left - right;
            case "*": return left * right;
            case "=": return left == right ? 1 : 0;
            case "<": return left < right ? 1 : 0;
            case ">": return left > right ? 1 : 0;
            default: break;
        }
        if (right == 0) {
            throw new Thrown(801);
        }
        return e.kind().equals("/") ? left / right : left % right;
    }

    private long read(int year, ModelSheet.Expr e, long index) throws Thrown {
        int holder = year;
        if (e.year() != 0) {
            start(e.year());
            holder = e.year();
        }
        int table = -1;
        for (int link = 0; link < 30 && classes.containsKey(holder); link++) {
            table = tableIndex(classes.get(holder).sheet, e.name());
            if (table >= 0) {
                break;
            }
            holder = classes.get(holder).sheet.under;
        }
        if (table < 0) {
            throw new Thrown(802);
        }
        if (holder != year) {
            start(holder);
        }
        Tariff tariff = classes.get(holder);
        if (index < 0 || index >= tariff.entries[table].length) {
            throw new Thrown(805);
        }
        if (tariff.state == 4 && holder != year) {
            tariff.halves++;
        }
        return tariff.entries[table][(int) index];
    }

    private static int tableIndex(ModelSheet sheet, String name) {
        for (int i = 0; i < sheet.tables.size(); i++) {
            if (sheet.tables.get(i).name().equals(name)) {
                return i;
            }
        }
        return -1;
    }

    int started(int i) {
        return i < 0 || i >= Math.min(300, starts.size()) ? -1 : starts.get(i);
    }

    int voyage(int tons, int cargo) {
        if (voyages.size() == 20 || tons < 0 || tons > 100000 || cargo < 0 || cargo > 9) {
            return -1;
        }
        Voyage one = new Voyage();
        one.tons = tons;
        one.cargo = cargo;
        voyages.add(one);
        return voyages.size() - 1;
    }

    int lock(int voyage, int lock, int year, int day) {
        if (voyage < 0 || voyage >= voyages.size() || lock < 0 || lock > 99 || !isYear(year) || day < 1 || day > 366) {
            return -1;
        }
        List<Lock> locks = voyages.get(voyage).locks;
        if (locks.size() == 8) {
            return -1;
        }
        locks.add(new Lock(lock, year, day));
        return locks.size();
    }

    int bill(int voyage) {
        if (voyage < 0 || voyage >= voyages.size() || voyages.get(voyage).locks.isEmpty()) {
            return -1;
        }
        billed = voyages.get(voyage);
        billed.bill = null;
        List<Long> lines = new ArrayList<>();
        try {
            for (Lock lock : billed.locks) {
                start(lock.year());
                billedLock = lock;
                lines.add(rule(lock.year()));
            }
        } catch (Thrown thrown) {
            failed++;
            return thrown.code;
        }
        billed.bill = lines;
        booked++;
        return 0;
    }

    private long rule(int from) throws Thrown {
        int year = from;
        for (int link = 0; link < 30 && classes.containsKey(year); link++) {
            ModelSheet sheet = classes.get(year).sheet;
            if (sheet.rule != null) {
                return work(year, sheet.rule, 0);
            }
            year = sheet.under;
        }
        throw new Thrown(802);
    }

    long line(int voyage, int what) {
        if (voyage < 0 || voyage >= voyages.size() || voyages.get(voyage).bill == null) {
            return NO_VALUE;
        }
        List<Long> lines = voyages.get(voyage).bill;
        if (what == 0) {
            return lines.stream().mapToLong(Long::longValue).sum();
        }
        return what < 0 || what > lines.size() ? NO_VALUE : lines.get(what - 1);
    }

    int count(int what) {
        int[] counts = {edition, starts.size(), booked, failed, voyages.size()};
        return what < 0 || what >= counts.length ? -1 : counts[what];
    }

    private static boolean isYear(int year) {
        return year >= 1700 && year <= 1729;
    }
}
