/** A flat of cockle beds between two who stand, A and B: what is told, done, foretold and asked of it. */
public final class CockleSquires {
    public static final int NONE = -1000000, BAD = -1000001, STATE = -1000002, FULL = -1000003;

    private static final int FINDINGS = -1000010, FAULTS = -1000100;
    private static final int NULL = 1, PLACE = 2, KIND = 3, SIZE = 4, STORE = 5;
    private static final int A = 0, B = 1, NEITHER = 2;
    private static final int BED = 0, COMMON = 1, STUBBORN = 2, CONTRARY = 3, WARM = 4, QUICK = 5;
    private static final int ROWS = 8, MOST_ITEMS = 40, BYTES = 0, SHORTS = 1, INTS = 2;
    private static final int MOST_TAPE = 100, MOST_BEDS = 9, CELLS = 9;
    private static final int MOST_STOCK = 99, MOST_WARM = 9, LEAST_LOT = 1, MOST_LOT = 9;
    private static final int MOST_ACTS = 24, MOST_TIDE = 999, MOST_TIDES = 24, MOST_AHEAD = 60, MOST_GROWN = 12;
    private static final int MOST_WARDS = 3, ALL_CASES = 10, MOST_SEED = 999999, IMAGES = 2, MOST_TRACE = 16;

    private final Rows rows = new Rows();
    private final Tape tape = new Tape();
    private final Flat now = new Flat();
    private final Acts acts = new Acts();
    private final Flat[] images = new Flat[IMAGES];
    private final Foretelling foretelling = new Foretelling();
    private final Asking asking = new Asking();
    private int latestFault = 0;
    private int latestFinding = 0;

    public CockleSquires() {
    }

    // ---- rows

    public int row(int row, int lane, int n) {
        if (!within(row, 0, ROWS - 1) || !within(lane, BYTES, INTS) || n > MOST_ITEMS) return BAD;
        if (n < 0) return found(SIZE);
        rows.make(row, lane, n);
        return unfound(n);
    }

    public int set(int row, int i, int v) {
        if (!within(row, 0, ROWS - 1)) return BAD;
        if (rows.isMissing(row)) return found(NULL);
        if (!rows.holds(row, i, 1)) return found(PLACE);
        return unfound(rows.put(row, i, v));
    }

    public int copy(int a, int i, int b, int j, int n) {
        if (!within(a, 0, ROWS - 1) || !within(b, 0, ROWS - 1)) return BAD;
        if (rows.isMissing(a) || rows.isMissing(b)) return found(NULL);
        if (rows.laneOf(a) != rows.laneOf(b)) return found(STORE);
        if (!rows.holds(a, i, n) || !rows.holds(b, j, n)) return found(PLACE);
        rows.carry(a, i, b, j, n);
        return unfound(n);
    }

    public int drop(int row) {
        if (!within(row, 0, ROWS - 1)) return BAD;
        if (rows.isMissing(row)) return found(NULL);
        return unfound(rows.lose(row));
    }

    // ---- what is told

    public int feed(int letter) {
        if (!within(letter, 0, 255)) return BAD;
        if (tape.length() >= MOST_TAPE) return FULL;
        return tape.append(letter);
    }

    public int flat() {
        Flat told = foretelling.scratch();
        int found = tape.readInto(told);
        tape.clear();
        if (found != 0) {
            latestFault = found;
            return FAULTS - tape.readTo();
        }
        now.become(told);
        acts.forget();
        return now.beds;
    }

    public int fault() {
        return latestFault;
    }

    public int undo() {
        if (!acts.takeBack(now)) return STATE;
        return acts.kept();
    }

    // ---- what is done

    public int tides(int n) {
        if (now.isNone()) return STATE;
        if (!within(n, 1, MOST_TIDES)) return BAD;
        if (now.tide + n > MOST_TIDE) return FULL;
        for (int i = 0; i < n; i++) {
            acts.keep(now);
            now.flow();
        }
        return now.allStock();
    }

    public int rake(int bed, int n) {
        if (!now.has(bed) || !within(n, 1, MOST_STOCK)) return BAD;
        if (now.hasVeto(bed) || now.stockOf(bed) < n) return STATE;
        acts.keep(now);
        return now.rakeUp(bed, n);
    }

    public int rain(int bed, int v) {
        if (!now.has(bed) || !within(v, 0, MOST_WARM)) return BAD;
        int before = now.warmOf(bed);
        acts.keep(now);
        now.warmTo(bed, v);
        return before;
    }

    public int veto(int bed, int on) {
        if (!now.has(bed) || !within(on, 0, 1)) return BAD;
        if (now.hasVeto(bed) == (on == 1)) return STATE;
        acts.keep(now);
        now.turnVeto(bed);
        return now.vetoes;
    }

    public int stand(int who, int cell) {
        if (now.isNone()) return STATE;
        if (!isOne(who) || !within(cell, 0, CELLS - 1)) return BAD;
        int before = who == A ? now.cellA : now.cellB;
        acts.keep(now);
        now.standIn(who, cell);
        return before;
    }

    public int bed(int bed, int what) {
        if (!now.has(bed) || !within(what, 0, 3)) return BAD;
        if (what == 3) return now.hasVeto(bed) ? 1 : 0;
        return now.tellOf(bed, what);
    }

    public int board(int what) {
        if (now.isNone()) return STATE;
        switch (what) {
            case 0:
            case 1:
            case 2:
                return now.countedFor(what);
            case 3:
                return now.cellA;
            case 4:
                return now.cellB;
            case 5:
                return now.lot;
            default:
                return BAD;
        }
    }

    // ---- foretold (who: 0 A, 1 B)

    public int ahead(int bed, int n, int what) {
        if (!now.has(bed) || !within(n, 0, MOST_AHEAD) || !within(what, 0, 2)) return BAD;
        return foretelling.after(now, n).tellOf(bed, what);
    }

    public int tally(int n, int what) {
        if (now.isNone()) return STATE;
        if (!within(n, 0, MOST_AHEAD) || !within(what, A, NEITHER)) return BAD;
        return foretelling.after(now, n).tallyFor(what);
    }

    public int when(int bed, int to) {
        if (!now.has(bed) || !within(to, A, NEITHER)) return BAD;
        return foretelling.firstLying(now, bed, to);
    }

    public int place(int who, int what) {
        if (now.isNone()) return STATE;
        if (!isOne(who) || !within(what, 0, 1)) return BAD;
        int cell = foretelling.bestCell(now, who);
        return what == 0 ? cell : foretelling.leadFrom(now, who, cell);
    }

    public int rests(int what) {
        if (now.isNone()) return STATE;
        if (!within(what, 0, 1)) return BAD;
        foretelling.weighPairs(now);
        return what == 0 ? foretelling.restingPairs() : foretelling.firstResting();
    }

    public int rakes(int who, int what) {
        if (now.isNone()) return STATE;
        if (!isOne(who) || !within(what, 0, 1)) return BAD;
        int which = foretelling.fewestRaked(now, who);
        return which == NONE || what == 1 ? which : Integer.bitCount(which);
    }

    public int wards(int who, int w, int what) {
        if (now.isNone()) return STATE;
        if (!isOne(who) || !within(w, 1, MOST_WARDS) || !within(what, 0, 1)) return BAD;
        int cut = foretelling.bestCut(now, who, w);
        return cut == NONE || what == 1 ? cut : foretelling.wardsLed(cut, now.beds);
    }

    public int decide() {
        if (now.isNone()) return STATE;
        return now.deciding();
    }

    public int grown(int bed, int which, int row, int i, int n) {
        if (!now.has(bed) || !within(which, 0, 2) || !within(row, 0, ROWS - 1) || !within(n, 1, MOST_GROWN)) return BAD;
        if (rows.isMissing(row)) return found(NULL);
        if (!rows.holds(row, i, n)) return found(PLACE);
        foretelling.hear(rows, row, i, n);
        return unfound(foretelling.grownBy(now, bed, which, n));
    }

    public int lain(int who, int row, int i) {
        if (now.isNone()) return STATE;
        if (!isOne(who) || !within(row, 0, ROWS - 1)) return BAD;
        if (rows.isMissing(row)) return found(NULL);
        if (!rows.holds(row, i, now.beds)) return found(PLACE);
        foretelling.hear(rows, row, i, now.beds);
        return unfound(foretelling.lainBy(now, who));
    }

    public long flood(int who, int p, int what) {
        if (now.isNone()) return STATE;
        if (!isOne(who) || !within(p, 0, ALL_CASES) || !within(what, 0, 1)) return BAD;
        long leading = foretelling.casesLed(now, who, p);
        long all = foretelling.allCases(now);
        long common = commonDivisor(leading, all);
        if (common < 1) return what;
        return (what == 0 ? leading : all) / common;
    }

    public int drawn(int n, int seed, int what) {
        if (now.isNone()) return STATE;
        if (!within(n, 0, MOST_AHEAD) || !within(seed, 1, MOST_SEED) || !within(what, A, NEITHER)) return BAD;
        return foretelling.afterYears(now, n, seed).countedFor(what);
    }

    public int image(int k) {
        if (!within(k, 0, IMAGES - 1)) return BAD;
        if (now.isNone()) return STATE;
        Flat kept = images[k];
        if (kept == null) {
            kept = new Flat();
            images[k] = kept;
        }
        kept.become(now);
        return 1;
    }

    public int restore(int k) {
        if (!within(k, 0, IMAGES - 1)) return BAD;
        Flat kept = images[k];
        if (kept == null) return STATE;
        now.become(kept);
        acts.forget();
        return 1;
    }

    // ---- asked

    public int kind(int one) {
        if (!now.has(one)) return BAD;
        return now.kindOf(one);
    }

    public int as(int one, int kind) {
        if (!now.has(one) || !within(kind, BED, QUICK)) return BAD;
        if (!Asking.isSuch(now.kindOf(one), kind)) return found(KIND);
        return unfound(one);
    }

    public int ask(int one, int what) {
        if (!now.has(one) || !within(what, 0, 1)) return BAD;
        return asking.answer(now, one, what);
    }

    public int trace(int i) {
        return asking.traced(i);
    }

    public int count(int what) {
        switch (what) {
            case 0:
                return rows.present();
            case 1:
                return now.beds;
            case 2:
                return now.tide;
            case 3:
                return now.allStock();
            case 4:
                return now.allCounted();
            case 5:
                return now.vetoes;
            case 6:
                return acts.kept();
            case 7:
                return tape.length();
            default:
                return BAD;
        }
    }

    public int status() {
        return latestFinding;
    }

    private int found(int finding) {
        latestFinding = finding;
        return FINDINGS - finding;
    }

    private int unfound(int answer) {
        latestFinding = 0;
        return answer;
    }

    private static boolean within(int v, int least, int most) {
        return v >= least && v <= most;
    }

    private static boolean isOne(int who) {
        return who == A || who == B;
    }

    private static long commonDivisor(long a, long b) {
        // Euclid's rests halve every two steps, so 128 are enough for any two longs.
        for (int i = 0; i < 128 && b != 0; i++) {
            long rest = a % b;
            a = b;
            b = rest;
        }
        return a;
    }

    /** Rows of items; all of them stand in one array, so that no call makes anything new. */
    private static final class Rows {
        private static final int MISSING = -1;

        private final int[] items = new int[ROWS * MOST_ITEMS];
        private final int[] lanes = new int[ROWS];
        private final int[] sizes = new int[ROWS];

        Rows() {
            for (int row = 0; row < ROWS; row++) sizes[row] = MISSING;
        }

        boolean isMissing(int row) {
            return !within(row, 0, ROWS - 1) || sizes[row] == MISSING;
        }

        /** Counted in longs, because a place and a number of items may overflow together. */
        boolean holds(int row, int i, int n) {
            return !isMissing(row) && i >= 0 && n >= 0 && (long) i + n <= sizes[row];
        }

        int laneOf(int row) {
            return isMissing(row) ? MISSING : lanes[row];
        }

        int itemOf(int row, int i) {
            return holds(row, i, 1) ? items[row * MOST_ITEMS + i] : 0;
        }

        void make(int row, int lane, int n) {
            if (!within(row, 0, ROWS - 1) || !within(n, 0, MOST_ITEMS)) return;
            lanes[row] = lane;
            sizes[row] = n;
            for (int i = 0; i < n; i++) items[row * MOST_ITEMS + i] = 0;
        }

        int put(int row, int i, int v) {
            if (!holds(row, i, 1)) return 0;
            int item = inLane(lanes[row], v);
            items[row * MOST_ITEMS + i] = item;
            return item;
        }

        void carry(int a, int i, int b, int j, int n) {
            if (!holds(a, i, n) || !holds(b, j, n)) return;
            System.arraycopy(items, a * MOST_ITEMS + i, items, b * MOST_ITEMS + j, n);
        }

        int lose(int row) {
            if (isMissing(row)) return 0;
            int had = sizes[row];
            sizes[row] = MISSING;
            return had;
        }

        int present() {
            int number = 0;
            for (int row = 0; row < ROWS; row++) {
                if (sizes[row] != MISSING) number++;
            }
            return number;
        }

        private static int inLane(int lane, int v) {
            switch (lane) {
                case BYTES:
                    return (byte) v;
                case SHORTS:
                    return (short) v;
                default:
                    return v;
            }
        }
    }

    /** The bytes of a text, and its reading into a flat. */
    private static final class Tape {
        private static final int FIGURES = 2, NO_NUMBER = -1;
        private static final int MISPLACED = 1, NOT_AS_TOLD = 2, NO_ROOM = 3;

        private final int[] letters = new int[MOST_TAPE];
        private int length = 0;
        private int at = 0;
        private int wrong = 0;

        int length() {
            return length;
        }

        int append(int letter) {
            if (length >= 0 && length < MOST_TAPE) {
                letters[length] = letter;
                length++;
            }
            return length;
        }

        void clear() {
            length = 0;
        }

        /** Where the latest reading ended: behind all that is right, or at the fault. */
        int readTo() {
            return at;
        }

        int readInto(Flat told) {
            at = 0;
            wrong = 0;
            if (readLaw(told)) readBeds(told);
            return wrong;
        }

        private boolean readLaw(Flat told) {
            if (!takes('l')) return false;
            int a = number(0, CELLS - 1);
            if (a == NO_NUMBER || !takes(',')) return false;
            int b = number(0, CELLS - 1);
            if (b == NO_NUMBER || !takes(',')) return false;
            int lot = number(LEAST_LOT, MOST_LOT);
            if (lot == NO_NUMBER || !takes(';')) return false;
            told.begin(a, b, lot);
            return true;
        }

        /** One bed more than there is room for is begun, so that its letter is found to be the fault. */
        private void readBeds(Flat told) {
            for (int i = 0; i <= MOST_BEDS; i++) {
                if (!readBed(told) || at >= length) return;
            }
        }

        private boolean readBed(Flat told) {
            int kind = kindNamed(letterAt(at));
            if (kind == BED) return fails(MISPLACED);
            if (told.beds >= MOST_BEDS) return fails(NO_ROOM);
            at++;
            int stock = number(0, MOST_STOCK);
            if (stock == NO_NUMBER || !takes(',')) return false;
            int warm = number(0, MOST_WARM);
            if (warm == NO_NUMBER || !takes(';')) return false;
            told.add(kind, stock, warm);
            return true;
        }

        private boolean takes(int letter) {
            if (letterAt(at) != letter) return fails(MISPLACED);
            at++;
            return true;
        }

        private int number(int least, int most) {
            int figures = figuresAhead();
            if (figures < 1 || figures > FIGURES) {
                fails(MISPLACED);
                return NO_NUMBER;
            }
            int value = 0;
            for (int i = 0; i < figures; i++) value = 10 * value + letterAt(at + i) - '0';
            if (!within(value, least, most)) {
                fails(NOT_AS_TOLD);
                return NO_NUMBER;
            }
            at += figures;
            return value;
        }

        private int figuresAhead() {
            int figures = 0;
            while (figures < MOST_TAPE && within(letterAt(at + figures), '0', '9')) figures++;
            return figures;
        }

        private int letterAt(int i) {
            return i >= 0 && i < length && i < MOST_TAPE ? letters[i] : -1;
        }

        private boolean fails(int fault) {
            wrong = fault;
            return false;
        }

        /** BED, where the letter names no kind. */
        private static int kindNamed(int letter) {
            switch (letter) {
                case 'c':
                    return COMMON;
                case 's':
                    return STUBBORN;
                case 'k':
                    return CONTRARY;
                case 'w':
                    return WARM;
                case 'q':
                    return QUICK;
                default:
                    return BED;
            }
        }
    }

    /** All that an act can change, and a flat that is read, kept or supposed has of its own. */
    private static final class Flat {
        private static final int RIPE_STOCK = 10, WARM_ENOUGH = 5;

        private int beds = 0;
        private int tide = 0;
        private int lot = 0;
        private int vetoes = 0;
        private int cellA = 0;
        private int cellB = 0;
        private final int[] counted = new int[3];
        private final int[] kinds = new int[MOST_BEDS];
        private final int[] stocks = new int[MOST_BEDS];
        private final int[] warms = new int[MOST_BEDS];

        void begin(int a, int b, int lotTold) {
            beds = 0;
            tide = 0;
            lot = lotTold;
            vetoes = 0;
            cellA = a;
            cellB = b;
            for (int to = A; to <= NEITHER; to++) counted[to] = 0;
        }

        void add(int kind, int stock, int warm) {
            if (beds < 0 || beds >= MOST_BEDS) return;
            kinds[beds] = kind;
            stocks[beds] = stock;
            warms[beds] = warm;
            beds++;
        }

        void become(Flat other) {
            beds = other.beds;
            tide = other.tide;
            lot = other.lot;
            vetoes = other.vetoes;
            cellA = other.cellA;
            cellB = other.cellB;
            System.arraycopy(other.counted, 0, counted, 0, 3);
            System.arraycopy(other.kinds, 0, kinds, 0, MOST_BEDS);
            System.arraycopy(other.stocks, 0, stocks, 0, MOST_BEDS);
            System.arraycopy(other.warms, 0, warms, 0, MOST_BEDS);
        }

        boolean isNone() {
            return beds < 1;
        }

        boolean has(int bed) {
            return bed >= 0 && bed < beds && bed < MOST_BEDS;
        }

        boolean hasVeto(int bed) {
            return has(bed) && (vetoes >> bed & 1) == 1;
        }

        int kindOf(int bed) {
            return has(bed) ? kinds[bed] : BED;
        }

        int stockOf(int bed) {
            return has(bed) ? stocks[bed] : 0;
        }

        int warmOf(int bed) {
            return has(bed) ? warms[bed] : 0;
        }

        /** 0 STOCK, 1 WARM, 2 how it lies. */
        int tellOf(int bed, int what) {
            if (what == 0) return stockOf(bed);
            return what == 1 ? warmOf(bed) : lying(bed);
        }

        int countedFor(int to) {
            return within(to, A, NEITHER) ? counted[to] : 0;
        }

        int allCounted() {
            return counted[A] + counted[B] + counted[NEITHER];
        }

        int allStock() {
            int sum = 0;
            for (int bed = 0; bed < beds; bed++) sum += stockOf(bed);
            return sum;
        }

        void kindTo(int bed, int kind) {
            if (has(bed)) kinds[bed] = kind;
        }

        void warmTo(int bed, int warm) {
            if (has(bed)) warms[bed] = warm;
        }

        void lotTo(int lotSupposed) {
            lot = lotSupposed;
        }

        void turnVeto(int bed) {
            if (has(bed)) vetoes ^= 1 << bed;
        }

        void standIn(int who, int cell) {
            if (who == A) cellA = cell;
            else cellB = cell;
        }

        int lying(int bed) {
            if (!has(bed)) return NEITHER;
            switch (kinds[bed]) {
                case COMMON:
                    return nearerBy(bed, 1);
                case STUBBORN:
                    return nearerBy(bed, 2);
                case CONTRARY:
                    return otherOne(nearerBy(bed, 1));
                case WARM:
                    return byWarmth(warms[bed]);
                case QUICK:
                    return stocks[bed] < RIPE_STOCK ? NEITHER : byWarmth(warms[bed]);
                default:
                    return NEITHER;
            }
        }

        private int nearerBy(int bed, int least) {
            int fartherFromB = Math.abs(bed - cellB) - Math.abs(bed - cellA);
            if (fartherFromB >= least) return A;
            return fartherFromB <= -least ? B : NEITHER;
        }

        private static int otherOne(int to) {
            if (to == NEITHER) return NEITHER;
            return to == A ? B : A;
        }

        private static int byWarmth(int warm) {
            return warm >= WARM_ENOUGH ? A : B;
        }

        void flow() {
            for (int bed = 0; bed < beds; bed++) swell(bed);
            tide++;
        }

        private void swell(int bed) {
            if (!has(bed)) return;
            int more = (warms[bed] + 1) / 2;
            if (lying(bed) == NEITHER) more += lot;
            stocks[bed] = Math.min(MOST_STOCK, stocks[bed] + more);
            if (tide % 2 == 1) warms[bed] = Math.max(0, warms[bed] - 1);
        }

        int rakeUp(int bed, int n) {
            if (!has(bed)) return 0;
            int kept = sieved(n);
            int to = lying(bed);
            if (within(to, A, NEITHER)) counted[to] += kept;
            stocks[bed] -= kept;
            return kept;
        }

        private static int sieved(int n) {
            return n * 3 / 4;
        }

        int tallyFor(int to) {
            int sum = countedFor(to);
            for (int bed = 0; bed < beds; bed++) {
                if (!hasVeto(bed) && lying(bed) == to) sum += sieved(stockOf(bed));
            }
            return sum;
        }

        /** How much greater the lead of one is by a bed, were it raked wholly, a veto or not. */
        int gainBy(int bed, int who) {
            int to = lying(bed);
            if (to == NEITHER) return 0;
            int bushels = sieved(stockOf(bed));
            return to == who ? bushels : -bushels;
        }

        int countedLead(int who) {
            int lead = counted[A] - counted[B];
            return who == A ? lead : -lead;
        }

        int leadOf(int who) {
            int lead = countedLead(who);
            for (int bed = 0; bed < beds; bed++) {
                if (!hasVeto(bed)) lead += gainBy(bed, who);
            }
            return lead;
        }

        int deciding() {
            int lead = leadOf(A);
            int bits = 0;
            for (int bed = 0; bed < beds; bed++) {
                int gain = gainBy(bed, A);
                int otherwise = hasVeto(bed) ? lead + gain : lead - gain;
                if (leader(otherwise) != leader(lead)) bits |= 1 << bed;
            }
            return bits;
        }

        private static int leader(int leadOfA) {
            if (leadOfA == 0) return NEITHER;
            return leadOfA > 0 ? A : B;
        }
    }

    /** The flats ahead of the latest acts, in a ring that the newest act overwrites when it is full. */
    private static final class Acts {
        private final Flat[] ring = new Flat[MOST_ACTS];
        private int next = 0;
        private int kept = 0;

        int kept() {
            return kept;
        }

        void forget() {
            kept = 0;
        }

        void keep(Flat flat) {
            if (!within(next, 0, MOST_ACTS - 1)) return;
            Flat before = ring[next];
            if (before == null) {
                before = new Flat();
                ring[next] = before;
            }
            before.become(flat);
            next = (next + 1) % MOST_ACTS;
            kept = Math.min(MOST_ACTS, kept + 1);
        }

        boolean takeBack(Flat flat) {
            if (kept < 1) return false;
            int latest = (next + MOST_ACTS - 1) % MOST_ACTS;
            if (!within(latest, 0, MOST_ACTS - 1)) return false;
            Flat before = ring[latest];
            if (before == null) return false;
            flat.become(before);
            next = latest;
            kept--;
            return true;
        }
    }

    /** What would be: all of it is tried on a flat of its own, so that nothing changes. */
    private static final class Foretelling {
        private static final int FIRST_KIND = COMMON, LAST_KIND = QUICK, CUTS = 100;
        private static final long FACTOR = 16807L, MODULUS = 2147483647L;

        private final Flat then = new Flat();
        private final int[] told = new int[MOST_GROWN];
        private final int[] gains = new int[MOST_BEDS];
        private final int[] leads = new int[CELLS * CELLS];

        Flat scratch() {
            return then;
        }

        void hear(Rows rows, int row, int i, int n) {
            for (int k = 0; k < n && k < MOST_GROWN; k++) told[k] = rows.itemOf(row, i + k);
        }

        Flat after(Flat now, int n) {
            then.become(now);
            for (int i = 0; i < n; i++) then.flow();
            return then;
        }

        int firstLying(Flat now, int bed, int to) {
            then.become(now);
            for (int n = 0; n <= MOST_AHEAD; n++) {
                if (then.lying(bed) == to) return n;
                then.flow();
            }
            return NONE;
        }

        int leadFrom(Flat now, int who, int cell) {
            then.become(now);
            then.standIn(who, cell);
            return then.leadOf(who);
        }

        int bestCell(Flat now, int who) {
            int best = 0;
            int most = leadFrom(now, who, 0);
            for (int cell = 1; cell < CELLS; cell++) {
                int lead = leadFrom(now, who, cell);
                if (lead > most) {
                    best = cell;
                    most = lead;
                }
            }
            return best;
        }

        void weighPairs(Flat now) {
            then.become(now);
            for (int a = 0; a < CELLS; a++) {
                then.standIn(A, a);
                for (int b = 0; b < CELLS; b++) {
                    then.standIn(B, b);
                    leads[a * CELLS + b] = then.leadOf(A);
                }
            }
        }

        int restingPairs() {
            int number = 0;
            for (int a = 0; a < CELLS; a++) {
                for (int b = 0; b < CELLS; b++) {
                    if (isResting(a, b)) number++;
                }
            }
            return number;
        }

        int firstResting() {
            for (int a = 0; a < CELLS; a++) {
                for (int b = 0; b < CELLS; b++) {
                    if (isResting(a, b)) return 10 * a + b;
                }
            }
            return NONE;
        }

        /** The lead of B is that of A turned round, so B would move to where A's is smaller. */
        private boolean isResting(int a, int b) {
            if (!within(a, 0, CELLS - 1) || !within(b, 0, CELLS - 1)) return false;
            int lead = leads[a * CELLS + b];
            for (int other = 0; other < CELLS; other++) {
                if (leads[other * CELLS + b] > lead || leads[a * CELLS + other] < lead) return false;
            }
            return true;
        }

        /** A bed with a veto gains nothing: it cannot be raked. */
        private void weighBeds(Flat now, int who) {
            for (int bed = 0; bed < MOST_BEDS; bed++) {
                gains[bed] = now.has(bed) && !now.hasVeto(bed) ? now.gainBy(bed, who) : 0;
            }
        }

        private int gainOfAll(int bits) {
            int sum = 0;
            for (int bed = 0; bed < MOST_BEDS; bed++) {
                if ((bits >> bed & 1) == 1) sum += gains[bed];
            }
            return sum;
        }

        private int gainBetween(int from, int end) {
            int sum = 0;
            for (int bed = 0; bed < MOST_BEDS; bed++) {
                if (bed >= from && bed < end) sum += gains[bed];
            }
            return sum;
        }

        int fewestRaked(Flat now, int who) {
            weighBeds(now, who);
            int lead = now.countedLead(who);
            int fewest = NONE;
            for (int bits = 0; bits < 1 << now.beds; bits++) {
                boolean fewer = fewest == NONE || Integer.bitCount(bits) < Integer.bitCount(fewest);
                if (fewer && (bits & now.vetoes) == 0 && lead + gainOfAll(bits) > 0) fewest = bits;
            }
            return fewest;
        }

        int bestCut(Flat now, int who, int w) {
            weighBeds(now, who);
            int best = NONE;
            int most = -1;
            for (int cut = 0; cut < CUTS; cut++) {
                if (wardsOf(cut, now.beds) != w) continue;
                int led = wardsLed(cut, now.beds);
                if (led > most) {
                    best = cut;
                    most = led;
                }
            }
            return best;
        }

        /** Into how many wards a cut parts the beds; 0 if one would be empty. */
        private static int wardsOf(int cut, int beds) {
            int second = cut / 10;
            int third = cut % 10;
            if (cut == 0) return beds > 0 ? 1 : 0;
            if (second < 1 || second >= beds) return 0;
            if (third == 0) return 2;
            return third > second && third < beds ? 3 : 0;
        }

        /** By the beds weighed for the latest cut. */
        int wardsLed(int cut, int beds) {
            int second = cut / 10;
            int third = cut % 10;
            int endOfFirst = second > 0 ? second : beds;
            int endOfSecond = third > 0 ? third : beds;
            int led = 0;
            if (gainBetween(0, endOfFirst) > 0) led++;
            if (second > 0 && gainBetween(second, endOfSecond) > 0) led++;
            if (third > 0 && gainBetween(third, beds) > 0) led++;
            return led;
        }

        /** Of kinds, warms and lots one is tried at a time; the two others are as they are. */
        int grownBy(Flat now, int bed, int which, int n) {
            int first = which == 0 ? FIRST_KIND : which == 1 ? 0 : LEAST_LOT;
            int last = which == 0 ? LAST_KIND : which == 1 ? MOST_WARM : MOST_LOT;
            int bits = 0;
            for (int v = first; v <= last; v++) {
                then.become(now);
                if (which == 0) then.kindTo(bed, v);
                else if (which == 1) then.warmTo(bed, v);
                else then.lotTo(v);
                if (growsAsTold(bed, n)) bits |= 1 << v;
            }
            return bits;
        }

        private boolean growsAsTold(int bed, int n) {
            for (int k = 0; k < n && k < MOST_GROWN; k++) {
                then.flow();
                if (then.stockOf(bed) != told[k]) return false;
            }
            return true;
        }

        int lainBy(Flat now, int who) {
            then.become(now);
            int bits = 0;
            for (int cell = 0; cell < CELLS; cell++) {
                then.standIn(who, cell);
                if (liesAsTold()) bits |= 1 << cell;
            }
            return bits;
        }

        private boolean liesAsTold() {
            for (int bed = 0; bed < MOST_BEDS; bed++) {
                if (then.has(bed) && then.lying(bed) != told[bed]) return false;
            }
            return true;
        }

        long allCases(Flat now) {
            long all = 1;
            for (int bed = 0; bed < now.beds; bed++) {
                if (!now.hasVeto(bed)) all *= ALL_CASES;
            }
            return all;
        }

        long casesLed(Flat now, int who, int p) {
            weighBeds(now, who);
            int lead = now.countedLead(who);
            long led = 0;
            for (int dry = 0; dry < 1 << now.beds; dry++) {
                if ((dry & now.vetoes) == 0 && lead + gainOfAll(dry) > 0) led += casesOf(now, dry, p);
            }
            return led;
        }

        private static long casesOf(Flat now, int dry, int p) {
            long cases = 1;
            for (int bed = 0; bed < now.beds; bed++) {
                if (!now.hasVeto(bed)) cases *= (dry >> bed & 1) == 1 ? ALL_CASES - p : p;
            }
            return cases;
        }

        Flat afterYears(Flat now, int n, int seed) {
            then.become(now);
            if (then.beds < 1) return then;
            long x = seed;
            for (int i = 0; i < n; i++) {
                x = x * FACTOR % MODULUS;
                int bed = (int) (x % then.beds);
                then.standIn(x % 2 == 0 ? A : B, (int) (x % CELLS));
                if (x % 3 == 0) then.warmTo(bed, (int) (x % 10));
                then.flow();
                if (!then.hasVeto(bed)) then.rakeUp(bed, then.stockOf(bed));
            }
            return then;
        }
    }

    /** Asks of beds: which body begins, what it gives, and the trace that the bodies leave. */
    private static final class Asking {
        // By kind: the body told for it, else that of the nearest kind that it is, too.
        private static final int[] PARENTS = {-1, BED, COMMON, COMMON, BED, WARM};
        private static final int[] SIZE_BODIES = {10, 11, 12, 11, 13, 14};
        private static final int[] MARK_BODIES = {20, 21, 24, 22, 23, 23};
        private static final int LENT_SIZE = 10, LENT_MARK = 20, MOST_DEPTH = 12;

        private final int[] trace = new int[MOST_TRACE];
        private int left = 0;

        static boolean isSuch(int kind, int wanted) {
            int such = kind;
            for (int i = 0; i < PARENTS.length && within(such, BED, QUICK); i++) {
                if (such == wanted) return true;
                such = PARENTS[such];
            }
            return false;
        }

        int answer(Flat flat, int bed, int what) {
            left = 0;
            int kind = flat.kindOf(bed);
            return give(this, flat, bed, what == 0 ? sizeBody(kind) : markBody(kind), 0);
        }

        int traced(int i) {
            return i >= 0 && i < left && i < MOST_TRACE ? trace[i] : NONE;
        }

        private void leave(int body) {
            if (left < 0 || left >= MOST_TRACE) return;
            trace[left] = body;
            left++;
        }

        private static int sizeBody(int kind) {
            return within(kind, BED, QUICK) ? SIZE_BODIES[kind] : LENT_SIZE;
        }

        private static int markBody(int kind) {
            return within(kind, BED, QUICK) ? MARK_BODIES[kind] : LENT_MARK;
        }

        private static int give(Asking asking, Flat flat, int bed, int body, int depth) {
            if (depth > MOST_DEPTH) return 0;
            asking.leave(body);
            int deeper = depth + 1;
            int kind = flat.kindOf(bed);
            switch (body) {
                case 10:
                    return flat.stockOf(bed);
                case 11:
                    return give(asking, flat, bed, 10, deeper) + give(asking, flat, bed, markBody(kind), deeper);
                case 12:
                    return -give(asking, flat, bed, 11, deeper);
                case 13:
                    return give(asking, flat, bed, 10, deeper) - 100;
                case 14:
                    return 2 * give(asking, flat, bed, 13, deeper);
                case 20:
                    return bed;
                case 21:
                    return give(asking, flat, bed, 20, deeper) + flat.warmOf(bed);
                case 22:
                    return give(asking, flat, bed, 21, deeper) - 1000;
                case 23:
                    return give(asking, flat, bed, 20, deeper) - give(asking, flat, bed, sizeBody(kind), deeper);
                case 24:
                    return 2 * give(asking, flat, bed, 21, deeper);
                default:
                    return 0;
            }
        }
    }
}
