/** Promises 6 to 8: the tape, its reading, its faults. */
public final class TapeTest {
    public static void main(String[] args) {
        feed();
        flat();
        flatInPlaceOfAnother();
        faults();
        faultsLeaveAll();
        fault();
        Check.end();
    }

    private static void feed() {
        Check c = new Check(6);
        CockleSquires x = new CockleSquires();
        c.due("feed(-1)", x.feed(-1), Check.BAD);
        c.due("feed(256)", x.feed(256), Check.BAD);
        c.due("count(7)", x.count(7), 0);
        c.due("feed(0)", x.feed(0), 1);
        c.due("feed(255)", x.feed(255), 2);
        for (int i = 3; i <= 100; i++) c.due("feed", x.feed('9'), i);
        c.due("count(7)", x.count(7), 100);
        c.due("feed beyond", x.feed('9'), Check.FULL);
        c.due("BAD ahead of FULL", x.feed(256), Check.BAD);
        c.due("count(7)", x.count(7), 100);
        c.due("flat()", x.flat(), -1000100);
        c.due("count(7)", x.count(7), 0);
        c.due("feed", x.feed('l'), 1);
    }

    private static void flat() {
        Check c = new Check(7);
        CockleSquires x = new CockleSquires();
        c.due("one bed", Check.read(x, "l8,0,9;c0,0;"), 1);
        c.due("A", x.board(3), 8);
        c.due("B", x.board(4), 0);
        c.due("LOT", x.board(5), 9);
        c.due("the tape is empty", x.count(7), 0);
        c.due("all sorts", Check.read(x, "l08,00,01;c99,9;s98,8;k07,07;w6,6;q5,5;"), 5);
        int[] stocks = {99, 98, 7, 6, 5};
        int[] warms = {9, 8, 7, 6, 5};
        for (int bed = 0; bed < 5; bed++) {
            c.due("kind " + bed, x.kind(bed), bed + 1);
            c.due("stock " + bed, x.bed(bed, 0), stocks[bed]);
            c.due("warm " + bed, x.bed(bed, 1), warms[bed]);
        }
        c.due("A", x.board(3), 8);
        c.due("B", x.board(4), 0);
        c.due("LOT", x.board(5), 1);
        c.due("nine beds", Check.read(x, "l0,0,1;c1,1;c2,1;c3,1;c4,1;c5,1;c6,1;c7,1;c8,1;q9,1;"), 9);
        c.due("the ninth", x.bed(8, 0), 9);
        c.due("count(1)", x.count(1), 9);
    }

    private static void flatInPlaceOfAnother() {
        Check c = new Check(7);
        CockleSquires x = Check.of("l0,8,1;c40,9;k40,9;q9,9;");
        x.row(0, 0, 3);
        x.image(0);
        String image = Check.picture(x);
        x.rake(0, 20);
        x.rake(1, 20);
        x.rake(2, 8);
        x.tides(3);
        x.veto(1, 1);
        c.due("for A", x.board(0), 15);
        c.due("for B", x.board(1), 15);
        c.due("for neither", x.board(2), 6);
        c.due("foretold ahead of another", x.drawn(60, 9, 2) < 6 ? 0 : 1, 1);
        c.due("count(6)", x.count(6), 7);
        c.due("another", Check.read(x, "l1,2,3;q7,3;"), 1);
        c.due("beds", x.count(1), 1);
        c.due("TIDE", x.count(2), 0);
        c.due("STOCKS", x.count(3), 7);
        c.due("COUNTED", x.count(4), 0);
        c.due("VETOES", x.count(5), 0);
        c.due("ACTS", x.count(6), 0);
        for (int what = 0; what < 3; what++) c.due("board(" + what + ")", x.board(what), 0);
        c.due("undo()", x.undo(), Check.STATE);
        c.due("the second bed is none any more", x.bed(1, 0), Check.BAD);
        c.due("rows stay", x.count(0), 1);
        c.due("images stay", x.restore(0), 1);
        c.due("as the image", Check.picture(x).equals(image) ? 1 : 0, 1);
    }

    private static void faulty(String text, int place, int number) {
        Check c = new Check(7);
        CockleSquires x = new CockleSquires();
        c.due("'" + text + "'", Check.read(x, text), -1000100 - place);
        new Check(8).due("'" + text + "'", x.fault(), number);
        c.due("count(1)", x.count(1), 0);
        c.due("count(7)", x.count(7), 0);
    }

    private static void faults() {
        String[] ends = {"", "l", "l1", "l1,", "l1,2", "l1,2,", "l1,2,3", "l1,2,3;", "l1,2,3;c", "l1,2,3;c5",
            "l1,2,3;c5,", "l1,2,3;c5,5", "l01", "l1,2,3;c05"};
        for (String text : ends) faulty(text, text.length(), 1);
        faulty("c1,1;", 0, 1);
        faulty("L1,2,3;", 0, 1);
        faulty(" l1,2,3;c5,5;", 0, 1);
        faulty("ll", 1, 1);
        faulty("l,", 1, 1);
        faulty("l-1", 1, 1);
        faulty("l1;", 2, 1);
        faulty("l9,", 1, 2);
        faulty("l10,", 1, 2);
        faulty("l99", 1, 2);
        faulty("l100,", 1, 1);
        faulty("l000,", 1, 1);
        faulty("l1,9,3;", 3, 2);
        faulty("l1,123,3;", 3, 1);
        faulty("l1,2,0;", 5, 2);
        faulty("l1,2,10;", 5, 2);
        faulty("l1,2,00;", 5, 2);
        faulty("l1,2,3,", 6, 1);
        faulty("l1,2,3;x1,1;", 7, 1);
        faulty("l1,2,3;l1,1;", 7, 1);
        faulty("l1,2,3;5,1;", 7, 1);
        faulty("l1,2,3;cc", 8, 1);
        faulty("l1,2,3;c100,1;", 8, 1);
        faulty("l1,2,3;c5;1;", 9, 1);
        faulty("l1,2,3;c5,10;", 10, 2);
        faulty("l1,2,3;c5,100;", 10, 1);
        faulty("l1,2,3;c5,5,", 11, 1);
        faulty("l1,2,3;c5,5; ", 12, 1);
        faulty("l1,2,3;c5,5;;", 12, 1);
        faulty("l1,2,3;c5,5;s", 13, 1);
        faulty("l1,2,3;c5,5;" + (char) 0, 12, 1);
        faulty("l1,2,3;c5,5;" + (char) 255, 12, 1);
        faulty("l9,9,0;x", 1, 2);
        String nine = "l0,0,1;" + "c1,1;".repeat(9);
        faulty(nine + "c1,1;", nine.length(), 3);
        faulty(nine + "q", nine.length(), 3);
        faulty(nine + "x", nine.length(), 1);
        faulty(nine + "l", nine.length(), 1);
        faulty(nine + ";", nine.length(), 1);
        faulty(nine + "12", nine.length(), 1);
        faulty("9".repeat(100), 0, 1);
        faulty("l" + "9".repeat(99), 1, 1);
    }

    private static void faultsLeaveAll() {
        Check c = new Check(7);
        CockleSquires x = Check.of("l0,8,1;c40,9;w40,9;");
        x.row(0, 0, 3);
        x.image(1);
        x.tides(1);
        x.rake(0, 10);
        x.veto(0, 1);
        x.ask(1, 1);
        String before = Check.picture(x);
        c.due("a fault behind a whole bed", Check.read(x, "l3,4,5;s1,1;s2"), -1000114);
        c.due("nothing is another", Check.picture(x).equals(before) ? 1 : 0, 1);
        c.due("ACTS stay", x.count(6), 3);
        c.due("the trace stays", x.trace(0), 23);
        c.due("undo()", x.undo(), 2);
        c.due("VETOES", x.count(5), 0);
        c.due("an image stays", x.restore(1), 1);
    }

    private static void fault() {
        Check c = new Check(8);
        CockleSquires x = new CockleSquires();
        c.due("before one", x.fault(), 0);
        Check.read(x, "l9");
        c.due("the latest", x.fault(), 2);
        Check.read(x, "l1,2,3;c5,5;");
        c.due("a flat that is read leaves it", x.fault(), 2);
        Check.read(x, "l0,0,1;" + "c1,1;".repeat(10));
        c.due("the latest", x.fault(), 3);
        x.flat();
        c.due("the latest", x.fault(), 1);
    }
}
