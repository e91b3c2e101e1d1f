import java.util.ArrayList;
import java.util.List;

/** What the tests share: answers that are due, texts that are fed, rows that are written. */
final class Check {
    static final int NONE = CockleSquires.NONE, BAD = CockleSquires.BAD;
    static final int STATE = CockleSquires.STATE, FULL = CockleSquires.FULL;
    static final int NULL = -1000011, PLACE = -1000012, KIND = -1000013, SIZE = -1000014, STORE = -1000015;

    private final String promise;
    private static int looked = 0;
    private static final List<String> wrong = new ArrayList<>();

    Check(int promise) {
        this.promise = "promise " + promise;
    }

    Check(String what) {
        this.promise = what;
    }

    void due(String call, long got, long want) {
        looked++;
        if (got != want) wrong.add(promise + ": " + call + " answered " + got + ", due is " + want);
    }

    static void end() {
        for (int i = 0; i < wrong.size() && i < 40; i++) System.out.println(wrong.get(i));
        System.out.println("    " + looked + " answers, " + wrong.size() + " not as due");
        if (!wrong.isEmpty() || looked == 0) System.exit(1);
    }

    static void feed(CockleSquires x, String text) {
        for (int i = 0; i < text.length(); i++) x.feed(text.charAt(i));
    }

    static int read(CockleSquires x, String text) {
        feed(x, text);
        return x.flat();
    }

    static CockleSquires of(String text) {
        CockleSquires x = new CockleSquires();
        int beds = read(x, text);
        if (beds < 1) throw new IllegalArgumentException(text + ": " + beds);
        return x;
    }

    static void write(CockleSquires x, int row, int... items) {
        x.row(row, 2, items.length);
        for (int i = 0; i < items.length; i++) x.set(row, i, items[i]);
    }

    /** Whether an item is v (0 to 99): a warm bed without warmth keeps its stock, so GROWN by WARM tells it. */
    static int holds(CockleSquires x, int row, int i, int v) {
        read(x, "l0,0,1;w" + v + ",0;");
        return (x.grown(0, 0, row, i, 1) & 1 << 4) != 0 ? 1 : 0;
    }

    /** All that a flat is, as one text; kept short, because an object answers 512 calls alone. */
    static String picture(CockleSquires x) {
        StringBuilder all = new StringBuilder();
        int beds = x.count(1);
        all.append(beds).append(' ').append(x.count(2)).append(' ').append(x.count(5)).append(' ');
        for (int what = 0; what < 6; what++) all.append(x.board(what)).append(' ');
        for (int bed = 0; bed < beds; bed++) {
            all.append(x.kind(bed)).append(' ').append(x.bed(bed, 0)).append(' ').append(x.bed(bed, 1)).append(' ');
        }
        return all.toString();
    }
}
