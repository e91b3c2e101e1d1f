import java.util.Random;

/** Runs of drawn calls on a CockleSquires and on a Model: every answer is due to be the same. */
public final class ModelTest {
    private static final int RUNS = 1500, CALLS = 512;
    private static final String SORTS = "cskwq";

    private final Random draws;
    private final CockleSquires x = new CockleSquires();
    private final Model m = new Model();
    private final StringBuilder calls = new StringBuilder();
    private int done = 0;

    private ModelTest(long seed) {
        draws = new Random(seed);
    }

    public static void main(String[] args) {
        for (int run = 0; run < RUNS; run++) new ModelTest(run).run(run);
        Check.end();
    }

    private void run(int run) {
        Check c = new Check("run " + run);
        boolean same = true;
        while (done < CALLS && same) same = draws.nextInt(m.count(1) == 0 ? 6 : 80) == 0 ? fedText() : drawn();
        c.due(same ? "all" : "calls" + calls, same ? 1 : 0, 1);
    }

    /** Mostly a number that fits, now and then one just outside or far off. */
    private int near(int least, int most) {
        int luck = draws.nextInt(40);
        if (luck == 0) return least - 1;
        if (luck == 1) return most + 1;
        if (luck == 2) return draws.nextBoolean() ? Integer.MAX_VALUE : Integer.MIN_VALUE;
        return least + draws.nextInt(most - least + 1);
    }

    private boolean fedText() {
        String text = text();
        for (int i = 0; i < text.length() && done < CALLS - 2; i++) {
            if (!call("feed", text.charAt(i))) return false;
        }
        return call("flat") && call("fault");
    }

    private String text() {
        StringBuilder text = new StringBuilder("l" + draws.nextInt(9) + "," + draws.nextInt(9) + "," + (1 + draws.nextInt(9)) + ";");
        int beds = draws.nextInt(25) == 0 ? 10 : 1 + draws.nextInt(9);
        boolean small = draws.nextInt(3) == 0;
        for (int i = 0; i < beds; i++) {
            text.append(SORTS.charAt(draws.nextInt(5))).append(draws.nextInt(small ? 12 : 100));
            text.append(',').append(draws.nextInt(10)).append(';');
        }
        if (draws.nextInt(4) != 0) return text.toString();
        int at = draws.nextInt(text.length());
        String wrong = ",;lcqx0123456789 ";
        char sign = wrong.charAt(draws.nextInt(wrong.length()));
        switch (draws.nextInt(4)) {
            case 0: text.setCharAt(at, sign); break;
            case 1: text.insert(at, sign); break;
            case 2: text.deleteCharAt(at); break;
            default: text.setLength(at); break;
        }
        return text.toString();
    }

    private int someBed() {
        return near(0, Math.max(0, m.count(1) - 1));
    }

    private boolean drawn() {
        switch (draws.nextInt(38)) {
            case 0: return call("row", near(0, 7), near(0, 2), near(0, 40));
            case 1: return call("set", near(0, 7), near(0, 20), draws.nextInt(3) == 0 ? draws.nextInt() : draws.nextInt(3));
            case 2: return call("copy", near(0, 7), near(0, 12), near(0, 7), near(0, 12), near(0, 12));
            case 3: return call("drop", near(0, 7));
            case 4: return call("feed", near(0, 255)) && call("flat");
            case 5: case 6: return call("undo");
            case 7: return call("tides", draws.nextInt(4) == 0 ? near(1, 24) : near(1, 3));
            case 8: case 9: return call("rake", someBed(), near(1, draws.nextInt(2) == 0 ? 20 : 99));
            case 10: return call("rain", someBed(), near(0, 9));
            case 11: case 12: return call("veto", someBed(), near(0, 1));
            case 13: case 14: return call("stand", near(0, 1), near(0, 8));
            case 15: return call("bed", someBed(), near(0, 3));
            case 16: return call("board", near(0, 5));
            case 17: return call("ahead", someBed(), near(0, 60), near(0, 2));
            case 18: return call("tally", near(0, 60), near(0, 2));
            case 19: return call("when", someBed(), near(0, 2));
            case 20: return call("place", near(0, 1), near(0, 1));
            case 21: return call("rests", near(0, 1));
            case 22: return call("rakes", near(0, 1), near(0, 1));
            case 23: return call("wards", near(0, 1), near(1, 3), near(0, 1));
            case 24: return call("decide");
            case 25: case 26: return toldGrown();
            case 27: case 28: return toldLain();
            case 29: return call("flood", near(0, 1), near(0, 10), near(0, 1));
            case 30: return call("drawn", near(0, 60), near(1, 999999), near(0, 2));
            case 31: return call("image", near(0, 1));
            case 32: return draws.nextInt(3) != 0 || call("restore", near(0, 1));
            case 33: return call("kind", someBed());
            case 34: return call("as", someBed(), near(0, 5)) && call("status");
            case 35: return call("ask", someBed(), near(0, 1));
            case 36: return call("trace", near(0, 6));
            default: return call("count", near(0, 7)) && call("status");
        }
    }

    /** Often by a row that is just as the bed would grow, so that something fits. */
    private boolean toldGrown() {
        int bed = someBed();
        int row = near(0, 7);
        int n = near(1, 12);
        int i = near(0, 3);
        if (draws.nextInt(3) != 0 && m.fits(bed, row, n, i)) {
            if (!call("row", row, near(0, 2), 16)) return false;
            for (int k = 0; k < n; k++) {
                if (!call("set", row, i + k, m.ahead(bed, k + 1, 0))) return false;
            }
        }
        return call("grown", bed, near(0, 2), row, i, n) && call("status");
    }

    private boolean toldLain() {
        int row = near(0, 7);
        int i = near(0, 3);
        int beds = m.count(1);
        if (draws.nextInt(3) != 0 && m.fits(0, row, 1, i)) {
            if (!call("row", row, near(0, 2), 16)) return false;
            for (int bed = 0; bed < beds; bed++) {
                if (!call("set", row, i + bed, m.bed(bed, 2))) return false;
            }
        }
        return call("lain", near(0, 1), row, i) && call("status");
    }

    private boolean call(String name, int... v) {
        if (done >= CALLS) return true;
        done++;
        long got = Calls.answer(x, name, v);
        long due = m.answer(name, v);
        calls.append(' ').append(name).append(java.util.Arrays.toString(v)).append('=').append(got);
        if (got != due) calls.append(" but due is ").append(due);
        return got == due;
    }
}
