/** Promises 1 to 3: a new object, feed, end. */
public final class TapeTest {
    public static void main(String[] args) {
        newObject();
        feedAndEnd();
        fullTape();
        tapeBehindCalls();
        bytesInOrder();
        Bench.close("TapeTest");
    }

    private static void newObject() {
        Bench b = new Bench();
        for (int what = 0; what < 5; what++) {
            Bench.due(0, b.count(what), "new: count " + what);
        }
        for (int year = 1700; year < 1730; year++) {
            Bench.due(0, b.state(year, 0), "new: no class");
            Bench.due(0, b.state(year, 1), "new: no edition");
            Bench.due(0, b.state(year, 2), "new: nothing thrown");
            Bench.due(-1, b.state(year, 6), "new: under none");
            Bench.due(0, b.state(year, 7), "new: not changed");
            Bench.due(Bench.NO_VALUE, b.constant(year, 0), "new: no const");
            Bench.due(Bench.NO_VALUE, b.entry(year, 0, 0), "new: no entry");
            Bench.due(0, b.forget(year), "new: no sheet");
            Bench.due(803, b.need(year), "new: need");
        }
        Bench.due(0, b.fault(0), "new: no fault");
        Bench.due(-1, b.fault(1), "new: no place");
        Bench.due(-1, b.started(0), "new: no starts");
        Bench.due(-1, b.bill(0), "new: no voyage");
        Bench.due(-1, b.lock(0, 1, 1700, 1), "new: no voyage to lock");
        Bench.due(Bench.NO_VALUE, b.line(0, 0), "new: no line");
        Bench.due(0, b.issue(), "new: nothing to issue");
        Bench.due(1, b.count(0), "an edition of nothing");
    }

    private static void feedAndEnd() {
        Bench b = new Bench();
        Bench.due(0, b.end(0), "end of an empty tape");
        Bench.due(-1, b.end(1), "end behind an empty tape");
        Bench.due(-1, b.end(-1), "end below 0");
        Bench.due(20, b.feed(0, 0, 0, 0, 0), "feed");
        Bench.due(40, b.feed(-1, -1, -1, -1, -1), "feed again");
        Bench.due(-1, b.end(41), "end behind the tape");
        Bench.due(-1, b.end(Integer.MIN_VALUE), "end far below");
        Bench.due(-1, b.end(Integer.MAX_VALUE), "end far behind");
        Bench.due(40, b.end(40), "end where it is");
        Bench.due(7, b.end(7), "end within");
        Bench.due(-1, b.end(8), "what was cut is gone");
        Bench.due(27, b.feed(1, 2, 3, 4, 5), "feed behind the cut");
        Bench.due(0, b.end(0), "end at 0");
    }

    private static void fullTape() {
        Bench b = new Bench();
        for (int i = 1; i <= 45; i++) {
            Bench.due(20 * i, b.feed(0x20202020, 0x20202020, 0x20202020, 0x20202020, 0x20202020), "feed " + i);
        }
        Bench.due(-1, b.feed(0, 0, 0, 0, 0), "feed of a full tape");
        Bench.due(900, b.end(900), "nothing came behind a full tape");
        Bench.due(881, b.end(881), "881");
        Bench.due(-1, b.feed(0, 0, 0, 0, 0), "no room for twenty");
        Bench.due(880, b.end(880), "880");
        Bench.due(900, b.feed(0x20202020, 0x20202020, 0x20202020, 0x20202020, 0x20202020), "just room");
        Bench.due(0, b.sheet(1700), "a sheet of blanks");
        Bench.due(20, b.feed(0, 0, 0, 0, 0), "the tape was taken");
    }

    private static void tapeBehindCalls() {
        Bench b = new Bench();
        b.text("check 1:1;");
        Bench.due(-2, b.sheet(1699), "no year");
        Bench.due(-2, b.sheet(1730), "no year");
        Bench.due(-2, b.sheet(Integer.MIN_VALUE), "no year");
        Bench.due(10, b.end(10), "the tape stays behind -2");
        Bench.due(1, b.sheet(1729), "it is a sheet still");
        Bench.due(-1, b.end(1), "it is empty behind a sheet");
        b.text("check");
        Bench.due(-1, b.sheet(1700), "a fault");
        Bench.due(-1, b.end(1), "it is empty behind a fault");
        b.text("rule 1;");
        b.issue();
        b.forget(1729);
        b.need(1700);
        Bench.due(7, b.end(7), "other calls leave it");
    }

    private static void bytesInOrder() {
        Bench b = new Bench();
        b.feed(0x636f6e73, 0x7420613d, 0x37382a32, 0x2b203b0a, 0x800000ff);
        b.end(14);
        b.feed(0x313b0000, 0, 0, 0, 0);
        b.end(16);
        Bench.due(0, b.sheet(1700), "the bytes of a sheet");
        b.issue();
        Bench.due(78 * 2 + 1, b.constant(1700, 0), "the highest byte comes first");
        b.feed(0x80000000, 0, 0, 0, 0);
        Bench.due(-1, b.sheet(1700), "a byte above 127");
        Bench.due(0, b.fault(1), "its place");
    }
}
