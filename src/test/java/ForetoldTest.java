/** Promises 17 to 28: what is foretold, and that nothing changes by it. */
public final class ForetoldTest {
    private static final String MIXED = "l0,4,7;c10,4;s10,5;c10,6;q9,9;k98,0;";

    public static void main(String[] args) {
        ahead();
        tally();
        when();
        place();
        rests();
        rakes();
        wards();
        wardsRefused();
        decide();
        grown();
        grownRefused();
        lain();
        lainRefused();
        flood();
        drawn();
        nothingChanges();
        Check.end();
    }

    private static void ahead() {
        Check c = new Check(17);
        CockleSquires x = new CockleSquires();
        c.due("no flat", x.ahead(0, 0, 0), Check.BAD);
        Check.read(x, "l0,8,3;q5,3;w98,9;");
        int[] stocks = {5, 10, 12, 13, 14, 15, 16, 16};
        int[] warms = {3, 3, 2, 2, 1, 1, 0, 0};
        int[] lies = {2, 1, 1, 1, 1, 1, 1, 1};
        for (int n = 0; n < 8; n++) {
            c.due("stock behind " + n, x.ahead(0, n, 0), stocks[n]);
            c.due("warm behind " + n, x.ahead(0, n, 1), warms[n]);
            c.due("lies behind " + n, x.ahead(0, n, 2), lies[n]);
        }
        c.due("stock behind 60", x.ahead(0, 60, 0), 16);
        c.due("99 at most", x.ahead(1, 1, 0), 99);
        c.due("warm behind 9", x.ahead(1, 9, 1), 5);
        c.due("lies behind 9", x.ahead(1, 9, 2), 0);
        c.due("warm behind 10", x.ahead(1, 10, 1), 4);
        c.due("lies behind 10", x.ahead(1, 10, 2), 1);
        x.tides(1);
        c.due("from an odd tide on", x.ahead(0, 1, 1), 2);
        c.due("n -1", x.ahead(0, -1, 0), Check.BAD);
        c.due("n 61", x.ahead(0, 61, 0), Check.BAD);
        c.due("what -1", x.ahead(0, 0, -1), Check.BAD);
        c.due("what 3", x.ahead(0, 0, 3), Check.BAD);
        c.due("bed 2", x.ahead(2, 0, 0), Check.BAD);
        c.due("bed -1", x.ahead(-1, 0, 0), Check.BAD);
    }

    private static void tally() {
        Check c = new Check(18);
        CockleSquires x = new CockleSquires();
        c.due("no flat", x.tally(0, 0), Check.STATE);
        c.due("no flat, ahead of BAD", x.tally(61, 0), Check.STATE);
        Check.read(x, MIXED);
        int[] now = {7 + 7 + 73, 0, 7 + 6};
        int[] then = {9 + 9 + 15 + 73, 0, 15};
        for (int what = 0; what < 3; what++) {
            c.due("tally(0, " + what + ")", x.tally(0, what), now[what]);
            c.due("tally(1, " + what + ")", x.tally(1, what), then[what]);
        }
        x.veto(4, 1);
        c.due("a bed with a veto is in none", x.tally(0, 0), 14);
        x.rake(0, 10);
        c.due("with what is counted by now", x.tally(0, 0), 7 + 2 + 7);
        x.stand(0, 8);
        c.due("for B", x.tally(0, 1), 2 + 7 + 7);
        c.due("n -1", x.tally(-1, 0), Check.BAD);
        c.due("n 61", x.tally(61, 0), Check.BAD);
        c.due("n 60", x.tally(60, 3), Check.BAD);
        c.due("what -1", x.tally(0, -1), Check.BAD);
        c.due("all of it behind 60", x.tally(60, 0) + x.tally(60, 1) + x.tally(60, 2),
            7 + x.ahead(0, 60, 0) * 3 / 4 + x.ahead(1, 60, 0) * 3 / 4 + x.ahead(2, 60, 0) * 3 / 4 + x.ahead(3, 60, 0) * 3 / 4);
    }

    private static void when() {
        Check c = new Check(19);
        CockleSquires x = new CockleSquires();
        c.due("no flat", x.when(0, 0), Check.BAD);
        Check.read(x, "l0,8,1;c9,9;w9,9;q0,9;q0,0;w1,4;");
        c.due("when(0, 0)", x.when(0, 0), 0);
        c.due("when(0, 1)", x.when(0, 1), Check.NONE);
        c.due("when(0, 2)", x.when(0, 2), Check.NONE);
        c.due("when(1, 0)", x.when(1, 0), 0);
        c.due("when(1, 1)", x.when(1, 1), 10);
        c.due("when(1, 2)", x.when(1, 2), Check.NONE);
        c.due("when(2, 2)", x.when(2, 2), 0);
        c.due("when(2, 0), of 6 a tide", x.when(2, 0), 2);
        c.due("when(2, 1)", x.when(2, 1), 10);
        c.due("when(3, 1), of 1 a tide", x.when(3, 1), 10);
        c.due("when(3, 0)", x.when(3, 0), Check.NONE);
        c.due("when(4, 0)", x.when(4, 0), Check.NONE);
        x.tides(1);
        c.due("from an odd tide on", x.when(1, 1), 9);
        c.due("when(0, 3)", x.when(0, 3), Check.BAD);
        c.due("when(0, -1)", x.when(0, -1), Check.BAD);
        c.due("when(5, 0)", x.when(5, 0), Check.BAD);
        c.due("when(-1, 0)", x.when(-1, 0), Check.BAD);
    }

    private static void place() {
        Check c = new Check(20);
        CockleSquires x = new CockleSquires();
        c.due("no flat", x.place(0, 0), Check.STATE);
        c.due("no flat, ahead of BAD", x.place(2, 0), Check.STATE);
        Check.read(x, "l1,8,1;c40,0;c40,0;c40,0;");
        c.due("of several the first", x.place(0, 0), 0);
        c.due("all of them", x.place(0, 1), 90);
        c.due("only beside A none is lost", x.place(1, 0), 1);
        c.due("lead of B", x.place(1, 1), 0);
        x.rake(0, 40);
        c.due("where", x.place(1, 0), 1);
        c.due("below 0, by what is counted", x.place(1, 1), -30);
        c.due("A", x.place(0, 1), 30 + 7 + 30 + 30);
        x.veto(1, 1);
        c.due("a bed with a veto counts for none", x.place(0, 1), 30 + 7 + 30);
        c.due("beside A, where bed 2 is nearer", x.place(1, 0), 2);
        c.due("lead of B", x.place(1, 1), -30 - 7 + 30);
        c.due("who 2", x.place(2, 0), Check.BAD);
        c.due("who -1", x.place(-1, 0), Check.BAD);
        c.due("what 2", x.place(0, 2), Check.BAD);
        c.due("what -1", x.place(0, -1), Check.BAD);
        Check.read(x, "l0,7,1;k40,0;");
        c.due("the last cell, farther than B", x.place(0, 0), 8);
        c.due("its lead", x.place(0, 1), 30);
        c.due("of several the first", x.place(1, 0), 1);
    }

    private static void rests() {
        Check c = new Check(21);
        CockleSquires x = new CockleSquires();
        c.due("no flat", x.rests(0), Check.STATE);
        c.due("no flat, ahead of BAD", x.rests(2), Check.STATE);
        Check.read(x, "l8,0,1;c40,0;c40,0;c40,0;");
        c.due("both in the middle", x.rests(0), 1);
        c.due("where", x.rests(1), 11);
        x.veto(0, 1);
        x.veto(1, 1);
        c.due("both by bed 2", x.rests(0), 1);
        c.due("where", x.rests(1), 22);
        x.veto(2, 1);
        c.due("all of them", x.rests(0), 81);
        c.due("the first", x.rests(1), 0);
        x.rake(0, 1);
        c.due("what 2", x.rests(2), Check.BAD);
        c.due("what -1", x.rests(-1), Check.BAD);
        Check.read(x, "l8,0,1;c40,0;");
        c.due("both in the first cell", x.rests(0), 1);
        c.due("where", x.rests(1), 0);
        Check.read(x, "l0,0,1;k8,0;s20,0;");
        c.due("none", x.rests(0), 0);
        c.due("no first", x.rests(1), Check.NONE);
        restsByWords(c, "l0,0,1;k40,0;c40,0;");
        restsByWords(c, "l0,0,1;k20,0;c20,0;k20,0;c20,0;s20,0;");
        restsByWords(c, "l0,0,1;k8,0;s20,0;");
    }

    /** Asks each pair in turn, by standing there and by asking place() of both. */
    private static void restsByWords(Check c, String text) {
        CockleSquires x = Check.of(text);
        int number = 0;
        int first = Check.NONE;
        for (int a = 8; a >= 0; a--) {
            x.stand(0, a);
            for (int b = 8; b >= 0; b--) {
                x.stand(1, b);
                int lead = x.tally(0, 0) - x.tally(0, 1);
                if (x.place(0, 1) == lead && x.place(1, 1) == -lead) {
                    number++;
                    first = 10 * a + b;
                }
            }
        }
        c.due("rests(0)", x.rests(0), number);
        c.due("rests(1)", x.rests(1), first);
    }

    private static void rakes() {
        Check c = new Check(22);
        CockleSquires x = new CockleSquires();
        c.due("no flat", x.rakes(0, 0), Check.STATE);
        c.due("no flat, ahead of BAD", x.rakes(2, 0), Check.STATE);
        Check.read(x, "l0,4,1;c20,0;c40,0;c50,0;c60,0;c30,0;");
        c.due("one", x.rakes(0, 0), 1);
        c.due("the least", x.rakes(0, 1), 1);
        c.due("one", x.rakes(1, 0), 1);
        c.due("the least", x.rakes(1, 1), 8);
        x.rake(3, 58);
        c.due("43 for B", x.board(1), 43);
        c.due("two", x.rakes(0, 0), 2);
        c.due("which", x.rakes(0, 1), 3);
        c.due("it is so by now", x.rakes(1, 0), 0);
        c.due("none is to be raked", x.rakes(1, 1), 0);
        x.rake(4, 3);
        c.due("45 for B: as many are not more", x.rakes(0, 0), Check.NONE);
        c.due("NONE", x.rakes(0, 1), Check.NONE);
        Check.read(x, "l0,4,1;c20,0;c40,0;c50,0;c60,0;c30,0;");
        x.veto(0, 1);
        x.veto(3, 1);
        c.due("none with a veto", x.rakes(0, 1), 2);
        c.due("none with a veto", x.rakes(1, 1), 16);
        x.veto(4, 1);
        c.due("none is left", x.rakes(1, 0), Check.NONE);
        Check.read(x, "l8,0,1;c99,0;c0,0;c0,0;c0,0;c0,0;c40,0;c40,0;c40,0;c40,0;");
        x.rake(0, 92);
        c.due("69 for B: three", x.rakes(0, 0), 3);
        c.due("of four the least three", x.rakes(0, 1), 32 + 64 + 128);
        Check.read(x, "l0,8,1;c4,0;c4,0;c10,0;c2,0;c0,0;c12,0;");
        x.rake(5, 6);
        c.due("4 for B: of 3, 3, 7 and 1 one is enough", x.rakes(0, 0), 1);
        c.due("which", x.rakes(0, 1), 4);
        Check.read(x, "l0,8,1;c2,0;c0,0;c0,0;c0,0;c0,0;c4,0;");
        c.due("more by 1", x.rakes(0, 1), 1);
        c.due("B", x.rakes(1, 1), 32);
        x.rake(0, 2);
        c.due("by now, by 1", x.rakes(0, 0), 0);
        c.due("B", x.rakes(1, 0), 1);
        x.rake(5, 2);
        c.due("1 and 1", x.rakes(0, 0), Check.NONE);
        c.due("what 2", x.rakes(0, 2), Check.BAD);
        c.due("what -1", x.rakes(0, -1), Check.BAD);
        c.due("who 2", x.rakes(2, 0), Check.BAD);
        c.due("who -1", x.rakes(-1, 0), Check.BAD);
    }

    private static void ward(CockleSquires x, int who, int w, int led, int where) {
        Check c = new Check(23);
        c.due("wards(" + who + ", " + w + ", 0)", x.wards(who, w, 0), led);
        c.due("wards(" + who + ", " + w + ", 1)", x.wards(who, w, 1), where);
    }

    private static void wards() {
        // Bushels by bed: A 6, A 6, B 6, B 6, A 6, A 3, where warmth tells to whom.
        CockleSquires x = Check.of("l0,8,1;w8,9;w8,9;w8,0;w8,0;w8,9;w4,9;");
        ward(x, 0, 1, 1, 0);
        ward(x, 0, 2, 2, 10);
        ward(x, 0, 3, 2, 12);
        ward(x, 1, 1, 0, 0);
        ward(x, 1, 2, 1, 20);
        ward(x, 1, 3, 1, 12);
        x.veto(0, 1);
        ward(x, 0, 1, 1, 0);
        ward(x, 0, 2, 1, 10);
        ward(x, 0, 3, 2, 23);
        ward(x, 1, 2, 1, 20);
        x.rake(4, 8);
        x.undo();
        x.rake(1, 8);
        // Nothing counted by now is in it: A 0, A 0 (2 left), B 6, B 6, A 6, A 3.
        ward(x, 0, 1, 0, 0);
        ward(x, 1, 1, 1, 0);
        x = Check.of("l0,8,1;w2,9;w2,9;w2,0;w2,0;w2,9;");
        // More by 1: 1 1 / 1 1 are as many, and so are the last two.
        ward(x, 0, 1, 1, 0);
        ward(x, 0, 2, 1, 10);
        ward(x, 0, 3, 2, 12);
        ward(x, 1, 2, 1, 20);
        ward(x, 1, 3, 1, 12);
        x = Check.of("l0,0,1;w4,0;w0,0;w0,0;w8,9;w4,9;w12,0;w0,0;w0,0;w16,9;");
        ward(x, 0, 3, 3, 45);
        x = Check.of("l0,8,1;w8,9;w8,0;");
        ward(x, 0, 2, 1, 10);
        ward(x, 0, 3, Check.NONE, Check.NONE);
        ward(x, 1, 1, 0, 0);
        x = Check.of("l0,8,1;w8,9;");
        ward(x, 0, 1, 1, 0);
        ward(x, 0, 2, Check.NONE, Check.NONE);
        x = Check.of("l0,8,1;w8,0;w8,0;w8,0;w8,0;w8,0;w8,0;w8,9;w8,9;w8,9;");
        ward(x, 0, 2, 1, 40);
        ward(x, 0, 3, 2, 58);
        ward(x, 1, 3, 3, 12);
    }

    private static void wardsRefused() {
        Check c = new Check(23);
        CockleSquires x = new CockleSquires();
        c.due("no flat", x.wards(0, 1, 0), Check.STATE);
        c.due("no flat, ahead of BAD", x.wards(2, 1, 0), Check.STATE);
        Check.read(x, "l0,8,1;w8,9;");
        c.due("who 2", x.wards(2, 1, 0), Check.BAD);
        c.due("who -1", x.wards(-1, 1, 0), Check.BAD);
        c.due("w 0", x.wards(0, 0, 0), Check.BAD);
        c.due("w 4", x.wards(0, 4, 0), Check.BAD);
        c.due("what 2", x.wards(0, 1, 2), Check.BAD);
        c.due("what -1, BAD ahead of NONE", x.wards(0, 3, -1), Check.BAD);
    }

    private static void decide() {
        Check c = new Check(24);
        CockleSquires x = new CockleSquires();
        c.due("no flat", x.decide(), Check.STATE);
        Check.read(x, "l0,4,1;c20,0;c20,0;c9,0;c60,0;");
        c.due("the other one", x.decide(), 8);
        x.veto(3, 1);
        c.due("none, if it has one", x.decide(), 8);
        x.veto(0, 1);
        c.due("neither", x.decide(), 2 + 8);
        x.rake(1, 20);
        c.due("what is counted stays", x.decide(), 8);
        Check.read(x, "l0,2,1;c20,0;c9,0;c20,0;");
        c.due("one where neither does", x.decide(), 5);
        x.veto(0, 1);
        c.due("B leads", x.decide(), 5);
        Check.read(x, "l0,0,1;c20,0;c9,0;");
        c.due("none", x.decide(), 0);
        Check.read(x, "l0,8,1;w2,9;w4,0;");
        // B leads by 2; without bed 1 A leads by 1.
        c.due("by 1", x.decide(), 2);
        x.rake(0, 2);
        c.due("counted, it is not decided by its bed", x.decide(), 2);
        x.rake(1, 2);
        c.due("as many", x.decide(), 2);
    }

    private static void grew(CockleSquires x, int bed, int kinds, int warms, int lots, int... items) {
        Check c = new Check(25);
        Check.write(x, 3, items);
        c.due("kinds of bed " + bed, x.grown(bed, 0, 3, 0, items.length), kinds);
        c.due("warms of bed " + bed, x.grown(bed, 1, 3, 0, items.length), warms);
        c.due("lots of bed " + bed, x.grown(bed, 2, 3, 0, items.length), lots);
        c.due("status()", x.status(), 0);
    }

    private static void grown() {
        Check c = new Check(25);
        CockleSquires x = Check.of("l0,2,2;c5,3;s6,4;q4,9;c97,9;");
        int all = 1022;
        grew(x, 0, 2 + 4 + 8 + 16, 8 + 16, all, 7);
        grew(x, 0, 2 + 4 + 8 + 16, 8, all, 7, 9, 10);
        grew(x, 0, 32, 128 + 256, 0, 9);
        grew(x, 0, 0, 32 + 64, 0, 8);
        // Bed 1 lies to neither as a common one, a stubborn one, a contrary one or (below 10) in quicksand.
        grew(x, 1, 2 + 4 + 8 + 32, 8 + 16, 4, 10);
        grew(x, 1, 16, 1, 0, 8);
        grew(x, 1, 0, 0, 512, 17);
        grew(x, 2, 32, 512, 4, 11);
        grew(x, 2, 0, 2 + 4, 0, 7);
        grew(x, 2, 2 + 4 + 8 + 16, 32 + 64, 0, 9);
        grew(x, 2, 32, 512, 4, 11, 16, 20);
        // From warmth 3 on the bed is full behind a tide; one that does not gape tells nothing of LOT.
        grew(x, 3, 62, 8 + 16 + 32 + 64 + 128 + 256 + 512, all, 99);
        grew(x, 3, 62, 8 + 16 + 32 + 64 + 128 + 256 + 512, all, 99, 99, 99, 99, 99, 99, 99, 99, 99, 99, 99, 99);
        grew(x, 3, 0, 0, 0, 99, 99, 99, 99, 99, 99, 99, 99, 99, 99, 99, 98);
        x.tides(1);
        // An odd tide takes warmth: 3 gives 2 and then 1, 4 gives 2 and 2.
        grew(x, 0, 2 + 4 + 8 + 16, 8, all, 9, 10);
        grew(x, 0, 2 + 4 + 8 + 16, 8 + 16, all, 9);
        Check.write(x, 1, 50, 9, 10, 50);
        c.due("items from 1 on", x.grown(0, 1, 1, 1, 2), 8);
        c.due("items from 0 on", x.grown(0, 1, 1, 0, 2), 0);
        x.row(2, 0, 40);
        c.due("of bytes", x.set(2, 39, 9), 9);
        c.due("the last item", x.grown(0, 1, 2, 39, 1), 8 + 16);
        Check.write(x, 7, 9);
        c.due("the last row", x.grown(0, 1, 7, 0, 1), 8 + 16);
    }

    private static void grownRefused() {
        Check c = new Check(25);
        CockleSquires x = new CockleSquires();
        x.row(0, 2, 12);
        c.due("no flat", x.grown(0, 0, 0, 0, 1), Check.BAD);
        Check.read(x, "l0,2,2;c5,3;");
        c.due("bed 1", x.grown(1, 0, 0, 0, 1), Check.BAD);
        c.due("bed -1", x.grown(-1, 0, 0, 0, 1), Check.BAD);
        c.due("which 3", x.grown(0, 3, 0, 0, 1), Check.BAD);
        c.due("which -1", x.grown(0, -1, 0, 0, 1), Check.BAD);
        c.due("row 8", x.grown(0, 0, 8, 0, 1), Check.BAD);
        c.due("row -1", x.grown(0, 0, -1, 0, 1), Check.BAD);
        c.due("n 0", x.grown(0, 0, 0, 0, 0), Check.BAD);
        c.due("n 13", x.grown(0, 0, 0, 0, 13), Check.BAD);
        c.due("n -1", x.grown(0, 0, 0, 0, -1), Check.BAD);
        c.due("BAD ahead of NULL", x.grown(0, 0, 1, 0, 13), Check.BAD);
        c.due("missing", x.grown(0, 0, 1, -1, 1), Check.NULL);
        c.due("i -1", x.grown(0, 0, 0, -1, 1), Check.PLACE);
        c.due("i 12", x.grown(0, 0, 0, 12, 1), Check.PLACE);
        c.due("i max", x.grown(0, 0, 0, Integer.MAX_VALUE, 12), Check.PLACE);
        c.due("i 1, n 12", x.grown(0, 0, 0, 1, 12), Check.PLACE);
        c.due("status()", x.status(), 2);
        c.due("i 0, n 12", x.grown(0, 0, 0, 0, 12), 0);
    }

    private static void lain() {
        Check c = new Check(26);
        CockleSquires x = Check.of("l0,2,2;c5,3;s6,4;q4,9;");
        Check.write(x, 0, 0, 2, 2);
        c.due("cells of A, by B as he stands", x.lain(0, 0, 0), 1 + 2);
        c.due("cells of B, by A as he stands", x.lain(1, 0, 0), 2 + 4 + 8);
        Check.write(x, 1, 9, 2, 2, 2, 9);
        c.due("items from 1 on: A where B stands", x.lain(0, 1, 1), 4);
        c.due("items from 2 on: 9 is no such number", x.lain(0, 1, 2), 0);
        Check.write(x, 0, 1, 1, 2);
        c.due("A far off", x.lain(0, 0, 0), 16 + 32 + 64 + 128 + 256);
        c.due("B nowhere", x.lain(1, 0, 0), 0);
        x.veto(0, 1);
        c.due("a bed with a veto lies, too", x.lain(0, 0, 0), 16 + 32 + 64 + 128 + 256);
        x = Check.of("l3,5,2;w5,5;w6,4;q10,5;");
        Check.write(x, 7, 0, 1, 0);
        c.due("warm ones do not ask where", x.lain(0, 7, 0), 511);
        c.due("warm ones do not ask where", x.lain(1, 7, 0), 511);
        Check.write(x, 7, 0, 1, 1);
        c.due("nowhere", x.lain(1, 7, 0), 0);
        x = Check.of("l4,4,1;c1,1;c1,1;c1,1;c1,1;c1,1;c1,1;c1,1;c1,1;c1,1;");
        Check.write(x, 6, 0, 0, 0, 0, 2, 1, 1, 1, 1);
        c.due("all nine", x.lain(0, 6, 0), 0);
        x.stand(1, 5);
        c.due("all nine, by 3 and 5", x.lain(0, 6, 0), 8);
    }

    private static void lainRefused() {
        Check c = new Check(26);
        CockleSquires x = new CockleSquires();
        x.row(0, 2, 3);
        c.due("no flat", x.lain(0, 0, 0), Check.STATE);
        c.due("no flat, ahead of BAD", x.lain(2, 8, 0), Check.STATE);
        Check.read(x, "l0,2,2;c5,3;c5,3;");
        c.due("who 2", x.lain(2, 0, 0), Check.BAD);
        c.due("who -1", x.lain(-1, 0, 0), Check.BAD);
        c.due("row 8", x.lain(0, 8, 0), Check.BAD);
        c.due("row -1", x.lain(0, -1, 0), Check.BAD);
        c.due("missing", x.lain(0, 1, -1), Check.NULL);
        c.due("i -1", x.lain(0, 0, -1), Check.PLACE);
        c.due("i 2", x.lain(0, 0, 2), Check.PLACE);
        c.due("i max", x.lain(0, 0, Integer.MAX_VALUE), Check.PLACE);
        c.due("status()", x.status(), 2);
        c.due("i 1", x.lain(0, 0, 1), 2);
        c.due("status()", x.status(), 0);
    }

    private static void likely(CockleSquires x, int who, int p, long above, long below) {
        Check c = new Check(27);
        c.due("flood(" + who + ", " + p + ", 0)", x.flood(who, p, 0), above);
        c.due("flood(" + who + ", " + p + ", 1)", x.flood(who, p, 1), below);
    }

    private static void flood() {
        Check c = new Check(27);
        CockleSquires x = new CockleSquires();
        c.due("no flat", x.flood(0, 0, 0), Check.STATE);
        c.due("no flat, ahead of BAD", x.flood(2, 0, 0), Check.STATE);
        Check.read(x, "l0,8,1;c40,0;");
        likely(x, 0, 3, 7, 10);
        likely(x, 0, 0, 1, 1);
        likely(x, 0, 10, 0, 1);
        likely(x, 1, 3, 0, 1);
        x.veto(0, 1);
        likely(x, 0, 3, 0, 1);
        Check.read(x, "l0,1,1;c40,0;c80,0;");
        likely(x, 0, 5, 1, 4);
        likely(x, 1, 5, 1, 2);
        likely(x, 0, 2, 4, 25);
        likely(x, 1, 2, 4, 5);
        x.veto(1, 1);
        likely(x, 0, 2, 4, 5);
        likely(x, 1, 2, 0, 1);
        x.veto(1, 0);
        x.rake(0, 40);
        likely(x, 0, 10, 1, 1);
        // 30 for A by now, 7 more of the 10 left, 60 for B.
        likely(x, 1, 4, 3, 5);
        Check.read(x, "l0,8,1;w2,9;w4,0;");
        likely(x, 0, 5, 1, 4);
        x.rake(1, 2);
        likely(x, 1, 5, 3, 4);
        likely(x, 0, 5, 0, 1);
        Check.read(x, "l0,0,1;w4,9;w4,9;w4,9;w4,9;w4,9;w4,9;w4,9;w4,9;w4,9;");
        likely(x, 0, 1, 999999999L, 1000000000L);
        likely(x, 0, 9, 1000000000L - 387420489L, 1000000000L);
        likely(x, 1, 9, 0, 1);
        c.due("who 2", x.flood(2, 0, 0), Check.BAD);
        c.due("who -1", x.flood(-1, 0, 0), Check.BAD);
        c.due("p 11", x.flood(0, 11, 0), Check.BAD);
        c.due("p -1", x.flood(0, -1, 0), Check.BAD);
        c.due("what 2", x.flood(0, 0, 2), Check.BAD);
        c.due("what -1", x.flood(0, 0, -1), Check.BAD);
    }

    private static void drawn() {
        Check c = new Check(28);
        CockleSquires x = new CockleSquires();
        c.due("no flat", x.drawn(0, 1, 0), Check.STATE);
        c.due("no flat, ahead of BAD", x.drawn(61, 1, 0), Check.STATE);
        Check.read(x, "l0,8,1;c40,4;");
        int[] forA = {0, 31, 40, 44, 47, 48, 48, 48};
        int[] forB = {0, 0, 0, 0, 0, 0, 1, 3};
        for (int n = 0; n < 8; n++) {
            c.due("A by " + n, x.drawn(n, 1, 0), forA[n]);
            c.due("B by " + n, x.drawn(n, 1, 1), forB[n]);
            c.due("neither by " + n, x.drawn(n, 1, 2), 0);
        }
        x.rake(0, 8);
        c.due("with what is counted by now", x.drawn(0, 5, 0), 6);
        c.due("and more", x.drawn(1, 1, 0), 6 + 27);
        x.veto(0, 1);
        c.due("none is raked that has a veto", x.drawn(60, 1, 0), 6);
        c.due("none is raked that has a veto", x.drawn(60, 999999, 1), 0);
        c.due("n 61", x.drawn(61, 1, 0), Check.BAD);
        c.due("n -1", x.drawn(-1, 1, 0), Check.BAD);
        c.due("seed 0", x.drawn(0, 0, 0), Check.BAD);
        c.due("seed 1000000", x.drawn(0, 1000000, 0), Check.BAD);
        c.due("seed -1", x.drawn(0, -1, 0), Check.BAD);
        c.due("what 3", x.drawn(0, 1, 3), Check.BAD);
        c.due("what -1", x.drawn(0, 1, -1), Check.BAD);
    }

    private static void nothingChanges() {
        CockleSquires x = Check.of("l0,4,7;c10,4;s20,5;c30,6;q9,9;k98,0;w22,7;q33,3;");
        Check.write(x, 0, 0, 0, 0, 0, 0, 0, 0);
        x.tides(3);
        x.rake(1, 8);
        x.veto(2, 1);
        String before = Check.picture(x);
        Check c = new Check("foretold");
        for (int n = 0; n <= 60; n += 20) {
            for (int what = 0; what < 3; what++) {
                x.ahead(4, n, what);
                x.tally(n, what);
                x.when(3, what);
                x.drawn(n, 77, what);
                x.grown(5, what, 0, 0, 7);
            }
        }
        for (int who = 0; who < 2; who++) {
            x.lain(who, 0, 0);
            for (int what = 0; what < 2; what++) {
                x.place(who, what);
                x.rests(what);
                x.rakes(who, what);
                x.flood(who, 3, what);
                for (int w = 1; w <= 3; w++) x.wards(who, w, what);
            }
        }
        x.decide();
        c.due("nothing changes", Check.picture(x).equals(before) ? 1 : 0, 1);
        c.due("no act", x.count(6), 5);
    }
}
