import java.math.BigInteger;
import java.util.ArrayDeque;
import java.util.ArrayList;
import java.util.Arrays;
import java.util.List;
import java.util.regex.Matcher;
import java.util.regex.Pattern;

/** A second program for the same document, written in another way, without care for speed or LANGUAGE.md. */
final class Model {
    private static final int NONE = CockleSquires.NONE, BAD = CockleSquires.BAD;
    private static final int STATE = CockleSquires.STATE, FULL = CockleSquires.FULL;
    private static final Pattern TOKEN = Pattern.compile("[a-z]|[0-9]+|[,;]|[^a-z0-9,;]", Pattern.DOTALL);

    /** A bed, told by its letter; it does not know the flat but by its cell. */
    private static final class Cockles implements Cloneable {
        char sort;
        int cell, stock, warm;
        boolean veto;

        Cockles(char sort, int cell, int stock, int warm) {
            this.sort = sort;
            this.cell = cell;
            this.stock = stock;
            this.warm = warm;
        }

        Cockles twin() {
            Cockles t = new Cockles(sort, cell, stock, warm);
            t.veto = veto;
            return t;
        }

        int lies(int[] stands) {
            int a = Math.abs(cell - stands[0]), b = Math.abs(cell - stands[1]);
            if (sort == 'c') return a == b ? 2 : a < b ? 0 : 1;
            if (sort == 's') return Math.abs(a - b) < 2 ? 2 : a < b ? 0 : 1;
            if (sort == 'k') return a == b ? 2 : a < b ? 1 : 0;
            if (sort == 'q' && stock <= 9) return 2;
            return warm > 4 ? 0 : 1;
        }
    }

    private static final class Shore {
        List<Cockles> beds = new ArrayList<>();
        int[] stands = new int[2];
        int[] counted = new int[3];
        int tide, lot;

        Shore twin() {
            Shore t = new Shore();
            for (Cockles bed : beds) t.beds.add(bed.twin());
            t.stands = stands.clone();
            t.counted = counted.clone();
            t.tide = tide;
            t.lot = lot;
            return t;
        }

        Shore flow() {
            for (Cockles bed : beds) {
                int lies = bed.lies(stands);
                bed.stock += (bed.warm + 1) / 2 + (lies == 2 ? lot : 0);
                if (bed.stock > 99) bed.stock = 99;
                if (tide % 2 != 0 && bed.warm > 0) bed.warm--;
            }
            tide++;
            return this;
        }

        Shore flow(int n) {
            for (int i = 0; i < n; i++) flow();
            return this;
        }

        int rake(Cockles bed, int n) {
            int sieved = 3 * n / 4;
            counted[bed.lies(stands)] += sieved;
            bed.stock -= sieved;
            return sieved;
        }

        /** What would be counted, were the beds of these bits raked wholly that have no veto. */
        int[] raked(int bits) {
            Shore t = twin();
            for (Cockles bed : t.beds) {
                if ((bits & 1 << bed.cell) != 0 && !bed.veto) t.rake(bed, bed.stock);
            }
            return t.counted;
        }

        int lead(int who) {
            int[] c = raked(511);
            return c[who] - c[1 - who];
        }
    }

    private final Integer[][] rows = new Integer[8][];
    private final int[] lanes = new int[8];
    private final StringBuilder tape = new StringBuilder();
    private final ArrayDeque<Shore> acts = new ArrayDeque<>();
    private final Shore[] images = new Shore[2];
    private Shore now = null;
    private int fault = 0, finding = 0;
    private List<Integer> trace = new ArrayList<>();

    private static boolean in(int v, int least, int most) {
        return least <= v && v <= most;
    }

    private boolean isBed(int bed) {
        return now != null && in(bed, 0, now.beds.size() - 1);
    }

    private int finds(int number) {
        finding = number;
        return -1000010 - number;
    }

    private int fine(int answer) {
        finding = 0;
        return answer;
    }

    /** Whether a test may write a row so that it tells of this bed. */
    boolean fits(int bed, int row, int n, int i) {
        return isBed(bed) && in(row, 0, 7) && in(n, 1, 12) && in(i, 0, 3);
    }

    private boolean reaches(int row, long i, long n) {
        return i >= 0 && n >= 0 && i + n <= rows[row].length;
    }

    int row(int row, int lane, int n) {
        if (!in(row, 0, 7) || !in(lane, 0, 2) || n > 40) return BAD;
        if (n < 0) return finds(4);
        rows[row] = new Integer[n];
        Arrays.fill(rows[row], 0);
        lanes[row] = lane;
        return fine(n);
    }

    int set(int row, int i, int v) {
        if (!in(row, 0, 7)) return BAD;
        if (rows[row] == null) return finds(1);
        if (!reaches(row, i, 1)) return finds(2);
        int bits = lanes[row] == 0 ? 24 : lanes[row] == 1 ? 16 : 0;
        rows[row][i] = v << bits >> bits;
        return fine(rows[row][i]);
    }

    int copy(int a, int i, int b, int j, int n) {
        if (!in(a, 0, 7) || !in(b, 0, 7)) return BAD;
        if (rows[a] == null || rows[b] == null) return finds(1);
        if (lanes[a] != lanes[b]) return finds(5);
        if (!reaches(a, i, n) || !reaches(b, j, n)) return finds(2);
        Integer[] ahead = rows[a].clone();
        for (int k = 0; k < n; k++) rows[b][j + k] = ahead[i + k];
        return fine(n);
    }

    int drop(int row) {
        if (!in(row, 0, 7)) return BAD;
        if (rows[row] == null) return finds(1);
        int n = rows[row].length;
        rows[row] = null;
        return fine(n);
    }

    int feed(int letter) {
        if (!in(letter, 0, 255)) return BAD;
        if (tape.length() == 100) return FULL;
        tape.append((char) letter);
        return tape.length();
    }

    /** By the shape of the whole text: token k of the law and of each bed has its kind and its bounds. */
    int flat() {
        String text = tape.toString();
        tape.setLength(0);
        List<String> tokens = new ArrayList<>();
        List<Integer> places = new ArrayList<>();
        Matcher m = TOKEN.matcher(text);
        while (m.find()) {
            tokens.add(m.group());
            places.add(m.start());
        }
        String[] law = {"l", "0-8", ",", "0-8", ",", "1-9", ";"};
        String[] bed = {"cskwq", "0-99", ",", "0-9", ";"};
        for (int k = 0; ; k++) {
            boolean whole = k >= 12 && (k - 7) % 5 == 0;
            if (k == tokens.size() && whole) break;
            if (k == tokens.size()) return faulty(text.length(), 1);
            String want = k < 7 ? law[k] : bed[(k - 7) % 5];
            int wrong = wrongIn(tokens.get(k), want);
            if (wrong == 0 && k >= 7 && (k - 7) / 5 == 9) wrong = 3;
            if (wrong != 0) return faulty(places.get(k), wrong);
        }
        Shore told = new Shore();
        told.stands[0] = Integer.parseInt(tokens.get(1));
        told.stands[1] = Integer.parseInt(tokens.get(3));
        told.lot = Integer.parseInt(tokens.get(5));
        for (int k = 7; k < tokens.size(); k += 5) {
            told.beds.add(new Cockles(tokens.get(k).charAt(0), (k - 7) / 5,
                Integer.parseInt(tokens.get(k + 1)), Integer.parseInt(tokens.get(k + 3))));
        }
        now = told;
        acts.clear();
        return now.beds.size();
    }

    private static int wrongIn(String token, String want) {
        int dash = want.indexOf('-');
        if (dash < 0) return want.contains(token) ? 0 : 1;
        if (!token.matches("[0-9]{1,2}")) return 1;
        int v = Integer.parseInt(token);
        return in(v, Integer.parseInt(want.substring(0, dash)), Integer.parseInt(want.substring(dash + 1))) ? 0 : 2;
    }

    private int faulty(int place, int number) {
        fault = number;
        return -1000100 - place;
    }

    int undo() {
        if (acts.isEmpty()) return STATE;
        now = acts.removeLast();
        return acts.size();
    }

    private void act() {
        acts.addLast(now.twin());
        if (acts.size() > 24) acts.removeFirst();
    }

    int tides(int n) {
        if (now == null) return STATE;
        if (!in(n, 1, 24)) return BAD;
        if (now.tide + n > 999) return FULL;
        for (int i = 0; i < n; i++) {
            act();
            now.flow();
        }
        return count(3);
    }

    int rake(int bed, int n) {
        if (!isBed(bed) || !in(n, 1, 99)) return BAD;
        Cockles one = now.beds.get(bed);
        if (one.veto || one.stock < n) return STATE;
        act();
        return now.rake(one, n);
    }

    int rain(int bed, int v) {
        if (!isBed(bed) || !in(v, 0, 9)) return BAD;
        act();
        int was = now.beds.get(bed).warm;
        now.beds.get(bed).warm = v;
        return was;
    }

    int veto(int bed, int on) {
        if (!isBed(bed) || !in(on, 0, 1)) return BAD;
        if (now.beds.get(bed).veto == (on > 0)) return STATE;
        act();
        now.beds.get(bed).veto = on > 0;
        return count(5);
    }

    int stand(int who, int cell) {
        if (now == null) return STATE;
        if (!in(who, 0, 1) || !in(cell, 0, 8)) return BAD;
        act();
        int was = now.stands[who];
        now.stands[who] = cell;
        return was;
    }

    int bed(int bed, int what) {
        if (!isBed(bed) || !in(what, 0, 3)) return BAD;
        Cockles one = now.beds.get(bed);
        return new int[] {one.stock, one.warm, one.lies(now.stands), one.veto ? 1 : 0}[what];
    }

    int board(int what) {
        if (now == null) return STATE;
        if (!in(what, 0, 5)) return BAD;
        return what < 3 ? now.counted[what] : what < 5 ? now.stands[what - 3] : now.lot;
    }

    int ahead(int bed, int n, int what) {
        if (!isBed(bed) || !in(n, 0, 60) || !in(what, 0, 2)) return BAD;
        Shore t = now.twin().flow(n);
        Cockles one = t.beds.get(bed);
        return what == 0 ? one.stock : what == 1 ? one.warm : one.lies(t.stands);
    }

    int tally(int n, int what) {
        if (now == null) return STATE;
        if (!in(n, 0, 60) || !in(what, 0, 2)) return BAD;
        return now.twin().flow(n).raked(511)[what];
    }

    int when(int bed, int to) {
        if (!isBed(bed) || !in(to, 0, 2)) return BAD;
        int first = NONE;
        for (int n = 60; n >= 0; n--) if (ahead(bed, n, 2) == to) first = n;
        return first;
    }

    private int leadAt(int a, int b, int who) {
        Shore t = now.twin();
        t.stands = new int[] {a, b};
        return t.lead(who);
    }

    int place(int who, int what) {
        if (now == null) return STATE;
        if (!in(who, 0, 1) || !in(what, 0, 1)) return BAD;
        int best = 8, most = Integer.MIN_VALUE;
        for (int cell = 8; cell >= 0; cell--) {
            int lead = who == 0 ? leadAt(cell, now.stands[1], 0) : leadAt(now.stands[0], cell, 1);
            if (lead >= most) {
                best = cell;
                most = lead;
            }
        }
        return what == 0 ? best : most;
    }

    int rests(int what) {
        if (now == null) return STATE;
        if (!in(what, 0, 1)) return BAD;
        int[][] forA = new int[9][9], forB = new int[9][9];
        for (int a = 0; a < 9; a++) {
            for (int b = 0; b < 9; b++) {
                forA[a][b] = leadAt(a, b, 0);
                forB[a][b] = leadAt(a, b, 1);
            }
        }
        List<Integer> rest = new ArrayList<>();
        for (int a = 0; a < 9; a++) {
            for (int b = 0; b < 9; b++) {
                boolean rests = true;
                for (int c = 0; c < 9; c++) rests &= forA[c][b] <= forA[a][b] && forB[a][c] <= forB[a][b];
                if (rests) rest.add(10 * a + b);
            }
        }
        return what == 0 ? rest.size() : rest.isEmpty() ? NONE : rest.get(0);
    }

    int rakes(int who, int what) {
        if (now == null) return STATE;
        if (!in(who, 0, 1) || !in(what, 0, 1)) return BAD;
        for (int many = 0; many <= 9; many++) {
            for (int bits = 0; bits < 1 << now.beds.size(); bits++) {
                if (Integer.bitCount(bits) != many || (bits & count(5)) != 0) continue;
                int[] c = now.raked(bits);
                if (c[who] > c[1 - who]) return what == 0 ? many : bits;
            }
        }
        return NONE;
    }

    private int leadsIn(int who, int from, int end) {
        Shore t = now.twin();
        t.counted = new int[3];
        int[] c = t.raked((1 << end) - (1 << from));
        return c[who] > c[1 - who] ? 1 : 0;
    }

    int wards(int who, int w, int what) {
        if (now == null) return STATE;
        if (!in(who, 0, 1) || !in(w, 1, 3) || !in(what, 0, 1)) return BAD;
        int n = now.beds.size();
        if (n < w) return NONE;
        int led = -1, where = 0;
        if (w == 1) led = leadsIn(who, 0, n);
        for (int i = 1; w > 1 && i < n; i++) {
            for (int j = i + 1; j <= n; j++) {
                if ((w == 2) != (j == n)) continue;
                int won = leadsIn(who, 0, i) + leadsIn(who, i, j) + (w == 3 ? leadsIn(who, j, n) : 0);
                if (won > led) {
                    led = won;
                    where = 10 * i + (w == 3 ? j : 0);
                }
            }
        }
        return what == 0 ? led : where;
    }

    int decide() {
        if (now == null) return STATE;
        int bits = 0;
        for (int bed = 0; bed < now.beds.size(); bed++) {
            Shore t = now.twin();
            t.beds.get(bed).veto = !t.beds.get(bed).veto;
            if (Integer.signum(t.lead(0)) != Integer.signum(now.lead(0))) bits |= 1 << bed;
        }
        return bits;
    }

    int grown(int bed, int which, int row, int i, int n) {
        if (!isBed(bed) || !in(which, 0, 2) || !in(row, 0, 7) || !in(n, 1, 12)) return BAD;
        if (rows[row] == null) return finds(1);
        if (!reaches(row, i, n)) return finds(2);
        int bits = 0;
        for (int v = which == 1 ? 0 : 1; v <= (which == 0 ? 5 : 9); v++) {
            Shore t = now.twin();
            if (which == 0) t.beds.get(bed).sort = "cskwq".charAt(v - 1);
            if (which == 1) t.beds.get(bed).warm = v;
            if (which == 2) t.lot = v;
            boolean so = true;
            for (int k = 0; k < n; k++) so &= t.flow().beds.get(bed).stock == rows[row][i + k];
            if (so) bits |= 1 << v;
        }
        return fine(bits);
    }

    int lain(int who, int row, int i) {
        if (now == null) return STATE;
        if (!in(who, 0, 1) || !in(row, 0, 7)) return BAD;
        if (rows[row] == null) return finds(1);
        if (!reaches(row, i, now.beds.size())) return finds(2);
        int bits = 0;
        for (int cell = 0; cell < 9; cell++) {
            int[] stands = now.stands.clone();
            stands[who] = cell;
            boolean so = true;
            for (Cockles bed : now.beds) so &= bed.lies(stands) == rows[row][i + bed.cell];
            if (so) bits |= 1 << cell;
        }
        return fine(bits);
    }

    long flood(int who, int p, int what) {
        if (now == null) return STATE;
        if (!in(who, 0, 1) || !in(p, 0, 10) || !in(what, 0, 1)) return BAD;
        BigInteger led = BigInteger.ZERO;
        int n = now.beds.size();
        for (int flooded = 0; flooded < 1 << n; flooded++) {
            int[] c = now.raked(~flooded);
            if (c[who] <= c[1 - who]) continue;
            int wet = Integer.bitCount(flooded);
            led = led.add(BigInteger.valueOf(p).pow(wet).multiply(BigInteger.valueOf(10 - p).pow(n - wet)));
        }
        BigInteger all = BigInteger.TEN.pow(n), g = led.gcd(all);
        return (what == 0 ? led : all).divide(g).longValueExact();
    }

    int drawn(int n, int seed, int what) {
        if (now == null) return STATE;
        if (!in(n, 0, 60) || !in(seed, 1, 999999) || !in(what, 0, 2)) return BAD;
        Shore t = now.twin();
        BigInteger x = BigInteger.valueOf(seed);
        for (int i = 0; i < n; i++) {
            x = x.multiply(BigInteger.valueOf(16807)).mod(BigInteger.valueOf(2147483647));
            int v = x.intValueExact();
            t.stands[v % 2] = v % 9;
            Cockles bed = t.beds.get(v % t.beds.size());
            if (v % 3 == 0) bed.warm = v % 10;
            t.flow();
            if (!bed.veto) t.rake(bed, bed.stock);
        }
        return t.counted[what];
    }

    int image(int k) {
        if (!in(k, 0, 1)) return BAD;
        if (now == null) return STATE;
        images[k] = now.twin();
        return 1;
    }

    int restore(int k) {
        if (!in(k, 0, 1)) return BAD;
        if (images[k] == null) return STATE;
        now = images[k].twin();
        acts.clear();
        return 1;
    }

    int kind(int one) {
        return isBed(one) ? 1 + "cskwq".indexOf(now.beds.get(one).sort) : BAD;
    }

    int as(int one, int kind) {
        if (!isBed(one) || !in(kind, 0, 5)) return BAD;
        String such = new String[] {"cskwq", "csk", "s", "k", "wq", "q"}[kind];
        return such.indexOf(now.beds.get(one).sort) < 0 ? finds(3) : fine(one);
    }

    /** Kinds as classes of Java: what begins for which is left to Java's own rules. */
    private class Asked {
        final Cockles bed;

        Asked(Cockles bed) {
            this.bed = bed;
        }

        int gave(int body) {
            if (trace.size() < 16) trace.add(body);
            return 0;
        }

        int size() {
            return gave(10) + bed.stock;
        }

        int mark() {
            return gave(20) + bed.cell;
        }
    }

    private class Common extends Asked {
        Common(Cockles bed) {
            super(bed);
        }

        @Override int size() {
            return gave(11) + super.size() + mark();
        }

        @Override int mark() {
            return gave(21) + super.mark() + bed.warm;
        }
    }

    private class Stubborn extends Common {
        Stubborn(Cockles bed) {
            super(bed);
        }

        @Override int size() {
            return gave(12) - super.size();
        }

        @Override int mark() {
            return gave(24) + 2 * super.mark();
        }
    }

    private class Contrary extends Common {
        Contrary(Cockles bed) {
            super(bed);
        }

        @Override int mark() {
            return gave(22) + super.mark() - 1000;
        }
    }

    private class Warm extends Asked {
        Warm(Cockles bed) {
            super(bed);
        }

        @Override int size() {
            return gave(13) + super.size() - 100;
        }

        @Override int mark() {
            return gave(23) + super.mark() - size();
        }
    }

    private class Quick extends Warm {
        Quick(Cockles bed) {
            super(bed);
        }

        @Override int size() {
            return gave(14) + 2 * super.size();
        }
    }

    int ask(int one, int what) {
        if (!isBed(one) || !in(what, 0, 1)) return BAD;
        trace = new ArrayList<>();
        Cockles bed = now.beds.get(one);
        Asked asked = bed.sort == 'c' ? new Common(bed) : bed.sort == 's' ? new Stubborn(bed)
            : bed.sort == 'k' ? new Contrary(bed) : bed.sort == 'w' ? new Warm(bed) : new Quick(bed);
        return what == 0 ? asked.size() : asked.mark();
    }

    int trace(int i) {
        return in(i, 0, trace.size() - 1) ? trace.get(i) : NONE;
    }

    int count(int what) {
        int sum = 0;
        switch (what) {
            case 0:
                for (Integer[] row : rows) sum += row == null ? 0 : 1;
                return sum;
            case 1: return now == null ? 0 : now.beds.size();
            case 2: return now == null ? 0 : now.tide;
            case 3:
                for (int bed = 0; isBed(bed); bed++) sum += now.beds.get(bed).stock;
                return sum;
            case 4: return now == null ? 0 : now.counted[0] + now.counted[1] + now.counted[2];
            case 5:
                for (int bed = 0; isBed(bed); bed++) sum += now.beds.get(bed).veto ? 1 << bed : 0;
                return sum;
            case 6: return acts.size();
            case 7: return tape.length();
            default: return BAD;
        }
    }

    long answer(String name, int[] v) {
        switch (name) {
            case "row": return row(v[0], v[1], v[2]);
            case "set": return set(v[0], v[1], v[2]);
            case "copy": return copy(v[0], v[1], v[2], v[3], v[4]);
            case "drop": return drop(v[0]);
            case "feed": return feed(v[0]);
            case "flat": return flat();
            case "fault": return fault;
            case "undo": return undo();
            case "tides": return tides(v[0]);
            case "rake": return rake(v[0], v[1]);
            case "rain": return rain(v[0], v[1]);
            case "veto": return veto(v[0], v[1]);
            case "stand": return stand(v[0], v[1]);
            case "bed": return bed(v[0], v[1]);
            case "board": return board(v[0]);
            case "ahead": return ahead(v[0], v[1], v[2]);
            case "tally": return tally(v[0], v[1]);
            case "when": return when(v[0], v[1]);
            case "place": return place(v[0], v[1]);
            case "rests": return rests(v[0]);
            case "rakes": return rakes(v[0], v[1]);
            case "wards": return wards(v[0], v[1], v[2]);
            case "decide": return decide();
            case "grown": return grown(v[0], v[1], v[2], v[3], v[4]);
            case "lain": return lain(v[0], v[1], v[2]);
            case "flood": return flood(v[0], v[1], v[2]);
            case "drawn": return drawn(v[0], v[1], v[2]);
            case "image": return image(v[0]);
            case "restore": return restore(v[0]);
            case "kind": return kind(v[0]);
            case "as": return as(v[0], v[1]);
            case "ask": return ask(v[0], v[1]);
            case "trace": return trace(v[0]);
            case "count": return count(v[0]);
            case "status": return finding;
            default: throw new IllegalArgumentException(name);
        }
    }
}
