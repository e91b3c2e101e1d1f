/** Promises 9 to 16, 29 and 30: what is done, undone, told of it, and kept in images. */
public final class ActsTest {
    public static void main(String[] args) {
        undo();
        undoForgets();
        tides();
        tidesRefused();
        rake();
        rakeRefused();
        rain();
        veto();
        stand();
        bedLies();
        bed();
        board();
        images();
        Check.end();
    }

    private static void undo() {
        Check c = new Check(9);
        CockleSquires x = Check.of("l0,6,2;c40,9;q5,3;w30,4;c40,4;");
        c.due("none", x.undo(), Check.STATE);
        String[] pictures = new String[9];
        int n = 0;
        pictures[n++] = Check.picture(x);
        x.tides(1);
        pictures[n++] = Check.picture(x);
        x.tides(1);
        pictures[n++] = Check.picture(x);
        x.rake(0, 33);
        pictures[n++] = Check.picture(x);
        x.stand(1, 0);
        x.undo();
        x.rake(3, 9);
        c.due("counted for neither", x.board(2), 6);
        pictures[n++] = Check.picture(x);
        x.rain(2, 8);
        pictures[n++] = Check.picture(x);
        x.veto(1, 1);
        pictures[n++] = Check.picture(x);
        x.stand(0, 4);
        pictures[n++] = Check.picture(x);
        x.stand(1, 3);
        c.due("count(6)", x.count(6), 8);
        for (int left = 7; left >= 0; left--) {
            c.due("undo()", x.undo(), left);
            c.due("as it was ahead of act " + left, Check.picture(x).equals(pictures[left]) ? 1 : 0, 1);
        }
        c.due("none any more", x.undo(), Check.STATE);
        c.due("count(6)", x.count(6), 0);
        x.rain(0, 9);
        x.stand(0, 0);
        x.rake(0, 1);
        c.due("acts by which nothing becomes another", x.count(6), 3);
        c.due("undo()", x.undo(), 2);
        c.due("undo()", x.undo(), 1);
        c.due("undo()", x.undo(), 0);
    }

    private static void undoForgets() {
        Check c = new Check(9);
        CockleSquires x = Check.of("l0,8,2;c0,0;");
        for (int i = 0; i < 30; i++) x.rain(0, i % 10);
        c.due("24 are kept", x.count(6), 24);
        for (int left = 23; left >= 0; left--) {
            c.due("undo()", x.undo(), left);
            c.due("warm", x.bed(0, 1), (left + 5) % 10);
        }
        c.due("the oldest are forgotten", x.undo(), Check.STATE);
        c.due("warm", x.bed(0, 1), 5);
        x.tides(24);
        c.due("each tide is an act", x.count(6), 24);
        c.due("undo()", x.undo(), 23);
        c.due("TIDE", x.count(2), 23);
        x.stand(1, 1);
        x.stand(1, 2);
        c.due("24 again", x.count(6), 24);
        c.due("undo()", x.undo(), 23);
        c.due("where B stands", x.board(4), 1);
    }

    private static void tides() {
        Check c = new Check(10);
        CockleSquires x = Check.of("l0,4,7;c10,4;s10,5;c10,6;q9,9;k98,0;");
        // Of these only the second (nearer by 2: A) to the fifth differ: c at 2 and the small q lie to neither.
        c.due("tides(1)", x.tides(1), 12 + 13 + 20 + 21 + 98);
        int[] first = {12, 13, 20, 21, 98};
        for (int bed = 0; bed < 5; bed++) c.due("stock " + bed, x.bed(bed, 0), first[bed]);
        int[] warm = {4, 5, 6, 9, 0};
        for (int bed = 0; bed < 5; bed++) c.due("an even tide leaves warm " + bed, x.bed(bed, 1), warm[bed]);
        c.due("TIDE", x.count(2), 1);
        c.due("tides(1)", x.tides(1), 14 + 16 + 30 + 26 + 98);
        int[] less = {3, 4, 5, 8, 0};
        for (int bed = 0; bed < 5; bed++) c.due("an odd tide takes warm " + bed, x.bed(bed, 1), less[bed]);
        c.due("tides(24)", x.tides(24), x.count(3));
        c.due("TIDE", x.count(2), 26);
        c.due("99 at most", x.bed(2, 0), 99);
        c.due("warm 0 at least", x.bed(0, 1), 0);
        c.due("a bed with a veto", x.veto(0, 1), 1);
        int before = x.bed(0, 0);
        x.rain(0, 9);
        x.tides(1);
        c.due("it grows, too", x.bed(0, 0), before + 5);
    }

    private static void tidesRefused() {
        Check c = new Check(10);
        CockleSquires x = new CockleSquires();
        c.due("no flat", x.tides(1), Check.STATE);
        c.due("no flat, ahead of BAD", x.tides(0), Check.STATE);
        Check.read(x, "l0,4,7;c0,0;");
        c.due("tides(0)", x.tides(0), Check.BAD);
        c.due("tides(-1)", x.tides(-1), Check.BAD);
        c.due("tides(25)", x.tides(25), Check.BAD);
        c.due("tides(max)", x.tides(Integer.MAX_VALUE), Check.BAD);
        c.due("count(6)", x.count(6), 0);
        for (int i = 0; i < 41; i++) x.tides(24);
        c.due("TIDE", x.count(2), 984);
        c.due("above 999", x.tides(16), Check.FULL);
        c.due("TIDE", x.count(2), 984);
        c.due("999", x.tides(15), 0);
        c.due("TIDE", x.count(2), 999);
        c.due("above 999", x.tides(1), Check.FULL);
        c.due("BAD ahead of FULL", x.tides(25), Check.BAD);
        c.due("undo()", x.undo(), 23);
        c.due("999 again", x.tides(1), 0);
        c.due("ahead goes on", x.ahead(0, 60, 0), 0);
    }

    private static void rake() {
        Check c = new Check(11);
        CockleSquires x = Check.of("l0,4,7;c99,4;s50,5;c50,6;q12,9;k50,0;");
        c.due("rake(0, 1)", x.rake(0, 1), 0);
        c.due("stock", x.bed(0, 0), 99);
        c.due("count(6)", x.count(6), 1);
        c.due("rake(0, 2)", x.rake(0, 2), 1);
        c.due("stock is less by what is counted", x.bed(0, 0), 98);
        c.due("rake(0, 7)", x.rake(0, 7), 5);
        c.due("rake(0, 93), all", x.rake(0, 93), 69);
        c.due("stock", x.bed(0, 0), 24);
        c.due("for A", x.board(0), 75);
        c.due("rake(2, 40)", x.rake(2, 40), 30);
        c.due("for neither", x.board(2), 30);
        c.due("rake(4, 50)", x.rake(4, 50), 37);
        c.due("for A, by a contrary one", x.board(0), 112);
        c.due("rake(3, 12), ahead of which it is ripe", x.rake(3, 12), 9);
        c.due("for A", x.board(0), 121);
        c.due("rake(3, 3), which gapes", x.rake(3, 3), 2);
        c.due("for neither", x.board(2), 32);
        x.stand(0, 8);
        c.due("rake(1, 50)", x.rake(1, 50), 37);
        c.due("for B", x.board(1), 37);
        c.due("count(4)", x.count(4), 121 + 37 + 32);
    }

    private static void rakeRefused() {
        Check c = new Check(11);
        CockleSquires x = new CockleSquires();
        c.due("no flat", x.rake(0, 1), Check.BAD);
        Check.read(x, "l0,4,7;c20,4;c30,4;");
        c.due("rake(-1, 1)", x.rake(-1, 1), Check.BAD);
        c.due("rake(2, 1)", x.rake(2, 1), Check.BAD);
        c.due("rake(0, 0)", x.rake(0, 0), Check.BAD);
        c.due("rake(0, -1)", x.rake(0, -1), Check.BAD);
        c.due("rake(0, 100)", x.rake(0, 100), Check.BAD);
        c.due("not so many", x.rake(0, 21), Check.STATE);
        x.veto(1, 1);
        c.due("a veto", x.rake(1, 1), Check.STATE);
        c.due("BAD ahead of STATE", x.rake(1, 0), Check.BAD);
        c.due("count(6)", x.count(6), 1);
        c.due("count(4)", x.count(4), 0);
        x.veto(1, 0);
        c.due("none any more", x.rake(1, 30), 22);
    }

    private static void rain() {
        Check c = new Check(12);
        CockleSquires x = new CockleSquires();
        c.due("no flat", x.rain(0, 0), Check.BAD);
        Check.read(x, "l0,4,7;w20,4;w30,7;");
        c.due("rain(0, 5)", x.rain(0, 5), 4);
        c.due("warm", x.bed(0, 1), 5);
        c.due("lies", x.bed(0, 2), 0);
        c.due("rain(0, 0)", x.rain(0, 0), 5);
        c.due("rain(0, 9)", x.rain(0, 9), 0);
        c.due("rain(0, 9), the same", x.rain(0, 9), 9);
        c.due("count(6)", x.count(6), 4);
        c.due("the other one", x.bed(1, 1), 7);
        c.due("rain(0, 10)", x.rain(0, 10), Check.BAD);
        c.due("rain(0, -1)", x.rain(0, -1), Check.BAD);
        c.due("rain(-1, 0)", x.rain(-1, 0), Check.BAD);
        c.due("rain(2, 0)", x.rain(2, 0), Check.BAD);
        c.due("count(6)", x.count(6), 4);
    }

    private static void veto() {
        Check c = new Check(13);
        CockleSquires x = new CockleSquires();
        c.due("no flat", x.veto(0, 1), Check.BAD);
        Check.read(x, "l0,4,7;c1,1;c1,1;c1,1;c1,1;c1,1;c1,1;c1,1;c1,1;c1,1;");
        c.due("veto(8, 1)", x.veto(8, 1), 256);
        c.due("veto(0, 1)", x.veto(0, 1), 257);
        c.due("veto(0, 1) again", x.veto(0, 1), Check.STATE);
        c.due("veto(3, 0)", x.veto(3, 0), Check.STATE);
        c.due("veto(8, 0)", x.veto(8, 0), 1);
        c.due("count(5)", x.count(5), 1);
        c.due("count(6)", x.count(6), 3);
        c.due("veto(9, 1)", x.veto(9, 1), Check.BAD);
        c.due("veto(-1, 1)", x.veto(-1, 1), Check.BAD);
        c.due("veto(0, 2)", x.veto(0, 2), Check.BAD);
        c.due("veto(0, -1)", x.veto(0, -1), Check.BAD);
    }

    private static void stand() {
        Check c = new Check(14);
        CockleSquires x = new CockleSquires();
        c.due("no flat", x.stand(0, 0), Check.STATE);
        c.due("no flat, ahead of BAD", x.stand(2, 0), Check.STATE);
        Check.read(x, "l3,4,7;c1,1;");
        c.due("stand(0, 8)", x.stand(0, 8), 3);
        c.due("stand(1, 0)", x.stand(1, 0), 4);
        c.due("stand(0, 8), the same", x.stand(0, 8), 8);
        c.due("A", x.board(3), 8);
        c.due("B", x.board(4), 0);
        c.due("count(6)", x.count(6), 3);
        c.due("stand(2, 0)", x.stand(2, 0), Check.BAD);
        c.due("stand(-1, 0)", x.stand(-1, 0), Check.BAD);
        c.due("stand(0, 9)", x.stand(0, 9), Check.BAD);
        c.due("stand(0, -1)", x.stand(0, -1), Check.BAD);
        c.due("count(6)", x.count(6), 3);
    }

    private static void bedLies() {
        Check c = new Check(15);
        String beds = "";
        for (int i = 0; i < 9; i++) beds += "c1,1;";
        // A stands in 2, B in 5: 3 is nearer to A by 1 alone, 4 to B.
        int[] common = {0, 0, 0, 0, 1, 1, 1, 1, 1};
        int[] stubborn = {0, 0, 0, 2, 2, 1, 1, 1, 1};
        int[] contrary = {1, 1, 1, 1, 0, 0, 0, 0, 0};
        CockleSquires x = Check.of("l2,5,1;" + beds);
        for (int bed = 0; bed < 9; bed++) c.due("common " + bed, x.bed(bed, 2), common[bed]);
        x = Check.of("l2,5,1;" + beds.replace('c', 's'));
        for (int bed = 0; bed < 9; bed++) c.due("stubborn " + bed, x.bed(bed, 2), stubborn[bed]);
        x = Check.of("l2,5,1;" + beds.replace('c', 'k'));
        for (int bed = 0; bed < 9; bed++) c.due("contrary " + bed, x.bed(bed, 2), contrary[bed]);
        for (String sort : new String[] {"c", "s", "k"}) {
            x = Check.of("l4,4,1;" + beds.replace("c", sort));
            for (int bed = 0; bed < 9; bed++) c.due(sort + " alike", x.bed(bed, 2), 2);
            x = Check.of("l3,5,1;" + beds.replace("c", sort));
            c.due(sort + " in the middle", x.bed(4, 2), 2);
        }
        x = Check.of("l3,4,1;" + beds.replace('c', 's'));
        for (int bed = 0; bed < 9; bed++) c.due("stubborn, by 1 alone", x.bed(bed, 2), 2);
        x = Check.of("l8,8,1;w0,5;w0,4;q9,5;q10,5;q10,4;q99,0;w99,0;w0,9;q0,0;");
        int[] warm = {0, 1, 2, 0, 1, 1, 1, 0, 2};
        for (int bed = 0; bed < 9; bed++) c.due("by warmth " + bed, x.bed(bed, 2), warm[bed]);
    }

    private static void bed() {
        Check c = new Check(15);
        CockleSquires x = new CockleSquires();
        c.due("no flat", x.bed(0, 0), Check.BAD);
        Check.read(x, "l2,5,1;c33,7;s0,0;");
        c.due("stock", x.bed(0, 0), 33);
        c.due("warm", x.bed(0, 1), 7);
        c.due("lies", x.bed(0, 2), 0);
        c.due("veto", x.bed(0, 3), 0);
        x.veto(0, 1);
        c.due("veto", x.bed(0, 3), 1);
        c.due("lies, in spite of it", x.bed(0, 2), 0);
        c.due("the other one", x.bed(1, 3), 0);
        c.due("bed(0, 4)", x.bed(0, 4), Check.BAD);
        c.due("bed(0, -1)", x.bed(0, -1), Check.BAD);
        c.due("bed(2, 0)", x.bed(2, 0), Check.BAD);
        c.due("bed(-1, 0)", x.bed(-1, 0), Check.BAD);
    }

    private static void board() {
        Check c = new Check(16);
        CockleSquires x = new CockleSquires();
        c.due("no flat", x.board(0), Check.STATE);
        c.due("no flat, ahead of BAD", x.board(6), Check.STATE);
        Check.read(x, "l2,5,9;c40,7;w40,0;s8,8;s20,1;");
        x.rake(0, 40);
        x.rake(1, 20);
        x.rake(3, 12);
        int[] board = {30, 15, 9, 2, 5, 9};
        for (int what = 0; what < 6; what++) c.due("board(" + what + ")", x.board(what), board[what]);
        c.due("board(6)", x.board(6), Check.BAD);
        c.due("board(-1)", x.board(-1), Check.BAD);
    }

    private static void images() {
        Check c = new Check(29);
        Check d = new Check(30);
        CockleSquires x = new CockleSquires();
        c.due("image(2)", x.image(2), Check.BAD);
        c.due("image(-1)", x.image(-1), Check.BAD);
        c.due("no flat", x.image(0), Check.STATE);
        d.due("restore(2)", x.restore(2), Check.BAD);
        d.due("restore(-1)", x.restore(-1), Check.BAD);
        d.due("none kept", x.restore(0), Check.STATE);
        Check.read(x, "l0,4,7;c40,4;c30,4;c20,4;k20,4;");
        x.tides(3);
        x.rake(2, 8);
        x.rake(3, 8);
        x.rake(0, 20);
        c.due("for neither", x.board(2), 6);
        x.veto(1, 1);
        x.stand(1, 7);
        String first = Check.picture(x);
        c.due("image(1)", x.image(1), 1);
        c.due("it is no act", x.count(6), 8);
        d.due("the other one was not kept", x.restore(0), Check.STATE);
        d.due("acts stay then", x.count(6), 8);
        x.tides(2);
        x.rain(0, 9);
        String second = Check.picture(x);
        c.due("image(0)", x.image(0), 1);
        Check.read(x, "l1,1,1;q9,9;");
        x.rain(0, 1);
        d.due("restore(1)", x.restore(1), 1);
        d.due("as it was kept", Check.picture(x).equals(first) ? 1 : 0, 1);
        d.due("no act can be undone", x.undo(), Check.STATE);
        d.due("count(6)", x.count(6), 0);
        x.tides(1);
        x.rake(0, 5);
        d.due("restore(0)", x.restore(0), 1);
        d.due("as it was kept", Check.picture(x).equals(second) ? 1 : 0, 1);
        d.due("restore(1) once more", x.restore(1), 1);
        d.due("what came behind it does not touch it", Check.picture(x).equals(first) ? 1 : 0, 1);
        x.stand(0, 8);
        c.due("image(1) in place of the one before", x.image(1), 1);
        x.undo();
        d.due("restore(1)", x.restore(1), 1);
        d.due("the later one", x.board(3), 8);
    }
}
