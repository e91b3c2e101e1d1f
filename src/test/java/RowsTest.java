/** Promises 1 to 5 and 36: the new object, rows, and the findings that status() tells. */
public final class RowsTest {
    public static void main(String[] args) {
        newObject();
        row();
        rowRefused();
        set();
        setRefused();
        copy();
        copyRefused();
        drop();
        status();
        Check.end();
    }

    private static void newObject() {
        Check c = new Check(1);
        CockleSquires x = new CockleSquires();
        for (int what = 0; what < 8; what++) c.due("count(" + what + ")", x.count(what), 0);
        c.due("fault()", x.fault(), 0);
        c.due("status()", x.status(), 0);
        c.due("trace(0)", x.trace(0), Check.NONE);
        c.due("board(0)", x.board(0), Check.STATE);
        c.due("decide()", x.decide(), Check.STATE);
        c.due("undo()", x.undo(), Check.STATE);
        c.due("bed(0, 0)", x.bed(0, 0), Check.BAD);
        c.due("kind(0)", x.kind(0), Check.BAD);
        for (int row = 0; row < 8; row++) c.due("drop(" + row + ")", x.drop(row), Check.NULL);
        c.due("restore(0)", x.restore(0), Check.STATE);
        c.due("restore(1)", x.restore(1), Check.STATE);
    }

    private static void row() {
        Check c = new Check(2);
        CockleSquires x = new CockleSquires();
        c.due("row(0, 0, 0)", x.row(0, 0, 0), 0);
        c.due("count(0)", x.count(0), 1);
        c.due("row(7, 2, 40)", x.row(7, 2, 40), 40);
        c.due("row(3, 1, 1)", x.row(3, 1, 1), 1);
        c.due("count(0)", x.count(0), 3);
        x.set(7, 0, 55);
        x.set(7, 39, 56);
        c.due("item 0", Check.holds(x, 7, 0, 55), 1);
        c.due("item 39", Check.holds(x, 7, 39, 56), 1);
        c.due("row(7, 2, 40) anew", x.row(7, 2, 40), 40);
        c.due("item 0 is 0 at first", Check.holds(x, 7, 0, 0), 1);
        c.due("item 39 is 0 at first", Check.holds(x, 7, 39, 0), 1);
        c.due("count(0)", x.count(0), 3);
        c.due("row(7, 0, 2), less", x.row(7, 0, 2), 2);
        c.due("set beyond", x.set(7, 2, 1), Check.PLACE);
        c.due("set in the new lane", x.set(7, 1, 200), -56);
        x.row(5, 2, 4);
        x.set(5, 3, 77);
        x.row(5, 2, 2);
        x.row(5, 2, 4);
        c.due("an item that was beyond the end is 0", Check.holds(x, 5, 3, 0), 1);
    }

    private static void rowRefused() {
        Check c = new Check(2);
        CockleSquires x = new CockleSquires();
        c.due("row(-1, 0, 1)", x.row(-1, 0, 1), Check.BAD);
        c.due("row(8, 0, 1)", x.row(8, 0, 1), Check.BAD);
        c.due("row(0, -1, 1)", x.row(0, -1, 1), Check.BAD);
        c.due("row(0, 3, 1)", x.row(0, 3, 1), Check.BAD);
        c.due("row(0, 0, 41)", x.row(0, 0, 41), Check.BAD);
        c.due("row(0, 0, max)", x.row(0, 0, Integer.MAX_VALUE), Check.BAD);
        c.due("row(8, 0, -1)", x.row(8, 0, -1), Check.BAD);
        c.due("row(0, 3, -1)", x.row(0, 3, -1), Check.BAD);
        c.due("count(0)", x.count(0), 0);
        c.due("row(0, 0, -1)", x.row(0, 0, -1), Check.SIZE);
        c.due("row(0, 0, min)", x.row(0, 0, Integer.MIN_VALUE), Check.SIZE);
        c.due("count(0)", x.count(0), 0);
        x.row(1, 2, 3);
        x.set(1, 0, 9);
        x.row(1, 0, -1);
        x.row(1, 0, 41);
        c.due("what is found changes nothing", x.drop(1), 3);
    }

    private static void set() {
        Check c = new Check(3);
        CockleSquires x = new CockleSquires();
        x.row(0, 0, 2);
        x.row(1, 1, 2);
        x.row(2, 2, 2);
        c.due("byte 127", x.set(0, 0, 127), 127);
        c.due("byte 128", x.set(0, 0, 128), -128);
        c.due("byte 255", x.set(0, 1, 255), -1);
        c.due("byte 256", x.set(0, 1, 256), 0);
        c.due("byte -129", x.set(0, 1, -129), 127);
        c.due("short 32767", x.set(1, 0, 32767), 32767);
        c.due("short 32768", x.set(1, 0, 32768), -32768);
        c.due("short 70000", x.set(1, 1, 70000), 4464);
        c.due("short -32769", x.set(1, 1, -32769), 32767);
        c.due("int max", x.set(2, 0, Integer.MAX_VALUE), Integer.MAX_VALUE);
        c.due("int min", x.set(2, 1, Integer.MIN_VALUE), Integer.MIN_VALUE);
        c.due("int like a refusal", x.set(2, 1, Check.BAD), Check.BAD);
        c.due("status()", x.status(), 0);
        x.set(0, 0, 256 + 42);
        c.due("kept as it is then", Check.holds(x, 0, 0, 42), 1);
        x.set(0, 1, 17);
        c.due("the other one stays", Check.holds(x, 0, 0, 42), 1);
    }

    private static void setRefused() {
        Check c = new Check(3);
        CockleSquires x = new CockleSquires();
        x.row(2, 2, 2);
        c.due("set(-1, 0, 0)", x.set(-1, 0, 0), Check.BAD);
        c.due("set(8, 0, 0)", x.set(8, 0, 0), Check.BAD);
        c.due("set(3, 0, 0)", x.set(3, 0, 0), Check.NULL);
        c.due("set(3, -1, 0)", x.set(3, -1, 0), Check.NULL);
        c.due("set(2, -1, 0)", x.set(2, -1, 0), Check.PLACE);
        c.due("set(2, 2, 0)", x.set(2, 2, 0), Check.PLACE);
        c.due("set(2, max, 0)", x.set(2, Integer.MAX_VALUE, 0), Check.PLACE);
        c.due("set(2, min, 0)", x.set(2, Integer.MIN_VALUE, 0), Check.PLACE);
        x.row(4, 0, 0);
        c.due("set in an empty row", x.set(4, 0, 0), Check.PLACE);
    }

    private static void copy() {
        Check c = new Check(4);
        CockleSquires x = new CockleSquires();
        Check.write(x, 0, 10, 11, 12, 13, 14);
        Check.write(x, 1, 20, 21, 22);
        c.due("copy(0, 1, 1, 0, 2)", x.copy(0, 1, 1, 0, 2), 2);
        c.due("copied first", Check.holds(x, 1, 0, 11), 1);
        c.due("copied second", Check.holds(x, 1, 1, 12), 1);
        c.due("the rest stays", Check.holds(x, 1, 2, 22), 1);
        c.due("upwards over itself", x.copy(0, 0, 0, 1, 4), 4);
        int[] upwards = {10, 10, 11, 12, 13};
        for (int i = 0; i < 5; i++) c.due("item " + i, Check.holds(x, 0, i, upwards[i]), 1);
        c.due("downwards over itself", x.copy(0, 1, 0, 0, 4), 4);
        int[] downwards = {10, 11, 12, 13, 13};
        for (int i = 0; i < 5; i++) c.due("item " + i, Check.holds(x, 0, i, downwards[i]), 1);
        c.due("none, at both ends", x.copy(0, 5, 1, 3, 0), 0);
        Check.write(x, 7, 33);
        c.due("from the last row", x.copy(7, 0, 1, 2, 1), 1);
        c.due("copied", Check.holds(x, 1, 2, 33), 1);
        c.due("to the last row", x.copy(1, 1, 7, 0, 1), 1);
        c.due("copied", Check.holds(x, 7, 0, 12), 1);
        c.due("all of a row onto itself", x.copy(0, 0, 0, 0, 5), 5);
        c.due("status()", x.status(), 0);
    }

    private static void copyRefused() {
        Check c = new Check(4);
        CockleSquires x = new CockleSquires();
        x.row(0, 2, 5);
        x.row(1, 2, 3);
        x.row(2, 1, 3);
        c.due("copy(-1, ..)", x.copy(-1, 0, 0, 0, 1), Check.BAD);
        c.due("copy(8, ..)", x.copy(8, 0, 0, 0, 1), Check.BAD);
        c.due("copy(.., -1, ..)", x.copy(0, 0, -1, 0, 1), Check.BAD);
        c.due("copy(.., 8, ..)", x.copy(0, 0, 8, 0, 1), Check.BAD);
        c.due("a missing, b none", x.copy(5, 0, 8, 0, 1), Check.BAD);
        c.due("a missing", x.copy(5, 0, 0, 0, 1), Check.NULL);
        c.due("b missing", x.copy(2, -1, 5, 0, 1), Check.NULL);
        c.due("two lanes", x.copy(0, 0, 2, 0, 1), Check.STORE);
        c.due("two lanes ahead of the place", x.copy(0, -1, 2, 0, 99), Check.STORE);
        c.due("i below 0", x.copy(0, -1, 1, 0, 1), Check.PLACE);
        c.due("j below 0", x.copy(0, 0, 1, -1, 1), Check.PLACE);
        c.due("n below 0", x.copy(0, 0, 1, 0, -1), Check.PLACE);
        c.due("beyond the end of a", x.copy(0, 4, 1, 0, 2), Check.PLACE);
        c.due("beyond the end of b", x.copy(0, 0, 1, 2, 2), Check.PLACE);
        c.due("none, beyond the end", x.copy(0, 6, 1, 0, 0), Check.PLACE);
        c.due("i and n overflow", x.copy(0, Integer.MAX_VALUE, 1, 0, Integer.MAX_VALUE), Check.PLACE);
        c.due("j and n overflow", x.copy(0, 1, 1, Integer.MAX_VALUE, 1), Check.PLACE);
        c.due("n overflows", x.copy(0, 1, 1, 1, Integer.MAX_VALUE), Check.PLACE);
        c.due("status()", x.status(), 2);
    }

    private static void drop() {
        Check c = new Check(5);
        CockleSquires x = new CockleSquires();
        x.row(0, 0, 12);
        x.row(7, 0, 0);
        c.due("drop(-1)", x.drop(-1), Check.BAD);
        c.due("drop(8)", x.drop(8), Check.BAD);
        c.due("drop(1)", x.drop(1), Check.NULL);
        c.due("drop(0)", x.drop(0), 12);
        c.due("count(0)", x.count(0), 1);
        c.due("drop(0) again", x.drop(0), Check.NULL);
        c.due("set(0, 0, 0)", x.set(0, 0, 0), Check.NULL);
        c.due("drop(7)", x.drop(7), 0);
        c.due("count(0)", x.count(0), 0);
    }

    private static void status() {
        Check c = new Check(36);
        CockleSquires x = new CockleSquires();
        x.set(0, 0, 0);
        c.due("after NULL", x.status(), 1);
        x.set(9, 0, 0);
        c.due("BAD changes nothing", x.status(), 1);
        x.lain(0, 0, 0);
        c.due("STATE changes nothing", x.status(), 1);
        x.row(0, 0, 1);
        c.due("after a row", x.status(), 0);
        x.set(0, 1, 0);
        c.due("after PLACE", x.status(), 2);
        x.feed(300);
        x.tides(1);
        x.count(0);
        c.due("calls without a row change nothing", x.status(), 2);
        x.row(1, 1, -1);
        c.due("after SIZE", x.status(), 4);
        x.row(1, 1, 1);
        x.copy(0, 0, 1, 0, 1);
        c.due("after STORE", x.status(), 5);
        Check.read(x, "l0,8,1;c5,5;");
        c.due("after a flat", x.status(), 5);
        x.as(0, 2);
        c.due("after KIND", x.status(), 3);
        x.as(0, 6);
        c.due("as, BAD", x.status(), 3);
        x.ask(0, 0);
        x.kind(0);
        c.due("ask and kind change nothing", x.status(), 3);
        x.as(0, 1);
        c.due("as, found none", x.status(), 0);
        x.drop(4);
        c.due("drop, NULL", x.status(), 1);
        x.drop(0);
        c.due("drop", x.status(), 0);
        x.grown(0, 0, 0, 0, 1);
        c.due("grown, NULL", x.status(), 1);
        x.grown(0, 0, 1, 0, 1);
        c.due("grown", x.status(), 0);
        x.grown(0, 0, 1, 1, 1);
        c.due("grown, PLACE", x.status(), 2);
        x.lain(0, 1, 0);
        c.due("lain", x.status(), 0);
        x.lain(0, 1, 1);
        c.due("lain, PLACE", x.status(), 2);
        x.copy(1, 0, 1, 0, 1);
        c.due("copy", x.status(), 0);
        x.set(6, 0, 0);
        x.set(1, 0, 0);
        c.due("set", x.status(), 0);
    }
}
