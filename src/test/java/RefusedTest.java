import java.util.ArrayList;
import java.util.LinkedHashMap;
import java.util.List;
import java.util.Map;
import java.util.function.Consumer;

/** The sentence behind the terms: all that can be asked of an object is the same ahead of a refused call and behind it. */
public final class RefusedTest {
    private static final String TAPE = "check 1:1;try{}else{}";

    public static void main(String[] args) {
        Sentences.holds("A refused call changes nothing but the tape", b -> eachOf(refused()));
        Sentences.holds("changes nothing but the tape", b -> eachOf(questions()));
        Sentences.holds("the tape, which is empty behind each call that takes it", RefusedTest::tapeIsEmpty);
        Bench.close("RefusedTest");
    }

    /** Sheets, classes in each state, a change, halves, starts, 20 voyages, one of them full, billed and not billed. */
    private static Bench grown() {
        Bench b = new Bench();
        b.put(1700, "const a=1;table t 2=1702.u[0]+5;rule t[1]+a;");
        b.put(1701, "under 1700;check 0:9;");
        b.put(1702, "table u 1=1700.t[0];");
        b.put(1703, "under 1702;");
        b.issue();
        for (int i = 0; i < 20; i++) {
            b.voyage(i, i % 10);
        }
        for (int i = 0; i < 8; i++) {
            b.lock(0, i, 1700, i + 1);
        }
        b.lock(1, 1, 1701, 1);
        b.bill(0);
        b.bill(1);
        b.put(1702, "table u 2=3;");
        b.put(1704, "rule at;");
        b.text(TAPE);
        return b;
    }

    private static List<Long> seen(Bench b) {
        List<Long> all = new ArrayList<>();
        for (int year : new int[] {1700, 1701, 1702, 1703, 1704, 1729}) {
            for (int what = 0; what < 8; what++) {
                all.add((long) b.state(year, what));
            }
            all.add(b.constant(year, 0));
            all.add(b.entry(year, 0, 0));
            all.add(b.entry(year, 0, 1));
            all.add(b.leans(year, 1700) ? 1L : 0L);
            all.add(b.leans(year, 1702) ? 1L : 0L);
        }
        for (int i = 0; i < 5; i++) {
            all.add((long) b.count(i));
            all.add((long) b.started(i));
        }
        for (int what = 0; what <= 9; what++) {
            all.add(b.line(0, what));
            all.add(b.line(1, what));
        }
        return all;
    }

    private static Map<String, Consumer<Bench>> refused() {
        Map<String, Consumer<Bench>> all = new LinkedHashMap<>();
        all.put("end(-1)", b -> Bench.due(-1, b.end(-1), "end"));
        all.put("end(22)", b -> Bench.due(-1, b.end(TAPE.length() + 1), "end"));
        all.put("sheet(1699)", b -> Bench.due(-2, b.sheet(1699), "sheet"));
        all.put("sheet(1730)", b -> Bench.due(-2, b.sheet(1730), "sheet"));
        all.put("forget(1699)", b -> Bench.due(0, b.forget(1699), "forget"));
        all.put("forget(1730)", b -> Bench.due(0, b.forget(1730), "forget"));
        all.put("forget(1704)", b -> Bench.due(0, b.forget(1704), "forget of none"));
        all.put("forget(1729)", b -> Bench.due(0, b.forget(1729), "forget of none"));
        all.put("need(1699)", b -> Bench.due(-1, b.need(1699), "need"));
        all.put("need(1730)", b -> Bench.due(-1, b.need(1730), "need"));
        all.put("need(1729)", b -> Bench.due(803, b.need(1729), "need of no class"));
        all.put("need(1701)", b -> Bench.due(804, b.need(1701), "need of a withdrawn one"));
        all.put("need(1700)", b -> Bench.due(0, b.need(1700), "need of a started one"));
        all.put("voyage(0, 0)", b -> Bench.due(-1, b.voyage(0, 0), "the 21st"));
        all.put("voyage(-1, 0)", b -> Bench.due(-1, b.voyage(-1, 0), "tons"));
        all.put("lock(0, ..)", b -> Bench.due(-1, b.lock(0, 0, 1700, 1), "the ninth"));
        all.put("lock(20, ..)", b -> Bench.due(-1, b.lock(20, 0, 1700, 1), "no voyage"));
        all.put("lock(1, 100, ..)", b -> Bench.due(-1, b.lock(1, 100, 1700, 1), "number"));
        all.put("lock(1, 0, 1730, 1)", b -> Bench.due(-1, b.lock(1, 0, 1730, 1), "year"));
        all.put("lock(1, 0, 1700, 367)", b -> Bench.due(-1, b.lock(1, 0, 1700, 367), "day"));
        all.put("bill(-1)", b -> Bench.due(-1, b.bill(-1), "no voyage"));
        all.put("bill(20)", b -> Bench.due(-1, b.bill(20), "no voyage"));
        all.put("bill(2)", b -> Bench.due(-1, b.bill(2), "no locks"));
        return all;
    }

    private static Map<String, Consumer<Bench>> questions() {
        Map<String, Consumer<Bench>> all = new LinkedHashMap<>();
        all.put("fault(2)", b -> Bench.due(-1, b.fault(2), "fault"));
        all.put("state(1699, 0)", b -> Bench.due(-1, b.state(1699, 0), "state"));
        all.put("state(1700, 8)", b -> Bench.due(-1, b.state(1700, 8), "state"));
        all.put("leans(1700, 1730)", b -> Bench.due(0, b.leans(1700, 1730), "leans"));
        all.put("constant(1700, 1)", b -> Bench.due(Bench.NO_VALUE, b.constant(1700, 1), "constant"));
        all.put("entry(1703, 0, 0)", b -> Bench.due(Bench.NO_VALUE, b.entry(1703, 0, 0), "entry"));
        all.put("started(300)", b -> Bench.due(-1, b.started(300), "started"));
        all.put("line(0, 9)", b -> Bench.due(Bench.NO_VALUE, b.line(0, 9), "line"));
        all.put("count(5)", b -> Bench.due(-1, b.count(5), "count"));
        return all;
    }

    private static void eachOf(Map<String, Consumer<Bench>> calls) {
        calls.forEach((name, call) -> {
            Bench b = grown();
            List<Long> ahead = seen(b);
            call.accept(b);
            Bench.due(1, ahead.equals(seen(b)), name + " changed nothing");
            Bench.due(6, b.fault(0), name + " left the fault");
            Bench.due(5, b.fault(1), name + " left its place");
            Bench.due(TAPE.length(), b.end(TAPE.length()), name + " left the tape");
            Bench.due(2, b.sheet(1705), name + " left its bytes");
            Bench.due(5, b.issue(), name + " left the changes: 1702 with 1700, 1701 and 1703 that lean on it, and 1705");
        });
    }

    private static void tapeIsEmpty(Bench b) {
        b.text("check 1:1;");
        Bench.due(1, b.sheet(1700), "a sheet");
        Bench.due(-1, b.end(1), "empty behind it");
        Bench.due(20, b.feed(0, 0, 0, 0, 0), "twenty of twenty");
        Bench.due(-1, b.sheet(1700), "a fault");
        Bench.due(-1, b.end(1), "empty behind it");
        Bench.due(0, b.sheet(1701), "an empty sheet");
        Bench.due(0, b.end(0), "empty behind it");
        Bench b2 = grown();
        List<Long> ahead = seen(b2);
        b2.end(7);
        Bench.due(-1, b2.sheet(1700), "a fault");
        Bench.due(1, ahead.equals(seen(b2)), "nothing else is changed");
        Bench.due(-1, b2.end(1), "the tape is");
        Bench full = new Bench();
        full.text(" ".repeat(900));
        Bench.due(-1, full.feed(-1, -1, -1, -1, -1), "refused");
        Bench.due(900, full.end(900), "the tape stays");
        Bench.due(0, full.sheet(1700), "as it was");
        Bench.due(-1, full.end(1), "empty now");
    }
}
