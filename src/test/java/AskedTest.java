/** Promises 31 to 35: kinds, asks, the trace, counts. */
public final class AskedTest {
    private static final String ALL_KINDS = "l0,8,1;c20,4;s21,5;k22,6;w23,7;q24,8;";

    public static void main(String[] args) {
        kind();
        as();
        askSize();
        askMark();
        trace();
        count();
        Check.end();
    }

    private static void kind() {
        Check c = new Check(31);
        CockleSquires x = new CockleSquires();
        c.due("no flat", x.kind(0), Check.BAD);
        Check.read(x, ALL_KINDS);
        for (int bed = 0; bed < 5; bed++) c.due("kind(" + bed + ")", x.kind(bed), bed + 1);
        c.due("kind(5)", x.kind(5), Check.BAD);
        c.due("kind(-1)", x.kind(-1), Check.BAD);
    }

    private static void as() {
        Check c = new Check(32);
        CockleSquires x = new CockleSquires();
        c.due("no flat", x.as(0, 0), Check.BAD);
        Check.read(x, ALL_KINDS);
        boolean[][] such = {
            {true, true, false, false, false, false},
            {true, true, true, false, false, false},
            {true, true, false, true, false, false},
            {true, false, false, false, true, false},
            {true, false, false, false, true, true},
        };
        for (int bed = 0; bed < 5; bed++) {
            for (int kind = 0; kind < 6; kind++) {
                c.due("as(" + bed + ", " + kind + ")", x.as(bed, kind), such[bed][kind] ? bed : Check.KIND);
                c.due("status()", x.status(), such[bed][kind] ? 0 : 3);
            }
        }
        c.due("as(5, 0)", x.as(5, 0), Check.BAD);
        c.due("as(-1, 0)", x.as(-1, 0), Check.BAD);
        c.due("as(0, 6)", x.as(0, 6), Check.BAD);
        c.due("as(0, -1)", x.as(0, -1), Check.BAD);
    }

    private static void asked(int promise, CockleSquires x, int bed, int what, int answer, int... trace) {
        Check c = new Check(promise);
        c.due("ask(" + bed + ", " + what + ")", x.ask(bed, what), answer);
        Check d = new Check(34);
        for (int i = 0; i < trace.length; i++) d.due("ask(" + bed + ", " + what + "), trace(" + i + ")", x.trace(i), trace[i]);
        d.due("behind it", x.trace(trace.length), Check.NONE);
    }

    private static void askSize() {
        Check c = new Check(33);
        CockleSquires x = new CockleSquires();
        c.due("no flat", x.ask(0, 0), Check.BAD);
        Check.read(x, ALL_KINDS);
        asked(33, x, 0, 0, 20 + 0 + 4, 11, 10, 21, 20);
        asked(33, x, 1, 0, -(21 + 2 * (1 + 5)), 12, 11, 10, 24, 21, 20);
        asked(33, x, 2, 0, 22 + (2 + 6 - 1000), 11, 10, 22, 21, 20);
        asked(33, x, 3, 0, 23 - 100, 13, 10);
        asked(33, x, 4, 0, 2 * (24 - 100), 14, 13, 10);
    }

    private static void askMark() {
        CockleSquires x = Check.of(ALL_KINDS);
        asked(33, x, 0, 1, 0 + 4, 21, 20);
        asked(33, x, 1, 1, 2 * (1 + 5), 24, 21, 20);
        asked(33, x, 2, 1, 2 + 6 - 1000, 22, 21, 20);
        asked(33, x, 3, 1, 3 - (23 - 100), 23, 20, 13, 10);
        asked(33, x, 4, 1, 4 - 2 * (24 - 100), 23, 20, 14, 13, 10);
        x.rain(3, 0);
        x.rake(3, 20);
        asked(33, x, 3, 1, 3 - (8 - 100), 23, 20, 13, 10);
        x.rain(0, 9);
        asked(33, x, 0, 1, 9, 21, 20);
        x.veto(0, 1);
        asked(33, x, 0, 0, 29, 11, 10, 21, 20);
    }

    private static void trace() {
        Check c = new Check(34);
        CockleSquires x = Check.of(ALL_KINDS);
        c.due("empty at first", x.trace(0), Check.NONE);
        x.ask(3, 0);
        c.due("trace(0)", x.trace(0), 13);
        c.due("trace(1)", x.trace(1), 10);
        c.due("trace(-1)", x.trace(-1), Check.NONE);
        c.due("trace(2)", x.trace(2), Check.NONE);
        c.due("trace(16)", x.trace(16), Check.NONE);
        c.due("trace(max)", x.trace(Integer.MAX_VALUE), Check.NONE);
        c.due("trace(min)", x.trace(Integer.MIN_VALUE), Check.NONE);
        c.due("ask(5, 0)", x.ask(5, 0), Check.BAD);
        c.due("ask(-1, 0)", x.ask(-1, 0), Check.BAD);
        c.due("ask(0, 2)", x.ask(0, 2), Check.BAD);
        c.due("ask(0, -1)", x.ask(0, -1), Check.BAD);
        c.due("it stays where that is refused", x.trace(0), 13);
        x.tides(1);
        x.undo();
        x.as(0, 1);
        c.due("it stays", x.trace(1), 10);
        x.ask(0, 1);
        c.due("empty ahead of an ask", x.trace(0), 21);
        c.due("trace(2)", x.trace(2), Check.NONE);
    }

    private static void count() {
        Check c = new Check(35);
        CockleSquires x = Check.of(ALL_KINDS);
        x.row(0, 0, 1);
        x.row(4, 1, 0);
        x.tides(3);
        x.rake(0, 8);
        x.veto(2, 1);
        Check.feed(x, "l1");
        int stocks = x.bed(0, 0) + x.bed(1, 0) + x.bed(2, 0) + x.bed(3, 0) + x.bed(4, 0);
        int[] counts = {2, 5, 3, stocks, 6, 4, 5, 2};
        for (int what = 0; what < 8; what++) c.due("count(" + what + ")", x.count(what), counts[what]);
        c.due("count(8)", x.count(8), Check.BAD);
        c.due("count(-1)", x.count(-1), Check.BAD);
    }
}
