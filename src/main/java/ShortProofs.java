/**
 * Proofs of plain logic by cutting lines against one another: taken from a text, measured,
 * made shorter, and asked what their grounds yield.
 *
 * <p>All rows are made once, in the constructors, and used again by every call.
 */
public final class ShortProofs {
    public static final int UNKNOWN = -1, OUTSIDE = -2, STATE = -3, FULL = -4, NONE = -9;
    public static final long LOST = Long.MIN_VALUE;

    private static final int FAULT_NULL = 1, FAULT_CAST = 2, FAULT_INDEX = 3, FAULT_SIZE = 4;
    private static final int NO_FAULT = 0, FAULT_BASE = -10, WRONG_BASE = -100;

    private static final int LETTERS = 6, ALL_SIGNS = 4095;
    private static final int MOST_PROOFS = 12, MOST_LINES = 24, MOST_ITEMS = 16;
    /** A heap may hold the lines of two proofs before those behind its end are let go. */
    private static final int WORK_LINES = 2 * MOST_LINES;
    private static final int MOST_ORDERED = 12, MOST_GROUNDS = 10;
    private static final int SHEETS = 4, MOST_CELLS = 60, MOST_LANE = 2, NOTHING = -1;
    private static final int DROP = 0, JOIN = 1, STRONGER = 2, CUT_ONCE = 3, UNITS_LAST = 4;
    private static final int SMALL_LETTERS = 3, SMALL_CODES = 64, MOST_CUTS = 3;
    private static final int SHOWN_END = 90;
    private static final long ALL_TRUE = -1L, LOW_HALF = 0xFFFFFFFFL;

    /** Bit m of the k-th: whether letter k is true where the letters of set m are. */
    private static final long[] LETTER_TABLES = {
        0xAAAAAAAAAAAAAAAAL, 0xCCCCCCCCCCCCCCCCL, 0xF0F0F0F0F0F0F0F0L,
        0xFF00FF00FF00FF00L, 0xFFFF0000FFFF0000L, 0xFFFFFFFF00000000L
    };

    private final Proof[] proofs;
    private final Sheet[] sheets;
    private final Reader reader;
    private final Sizes sizes;
    private final Order order;
    private final Shortener shortener;
    private final Truths tables;
    private int proofCount;
    /** The proof whose order stands in the row: proofs never change, so it need not be made again. */
    private int ordered;
    private int latestFault;
    private int traced;

    public ShortProofs() {
        proofs = new Proof[MOST_PROOFS];
        for (int p = 0; p < MOST_PROOFS; p++) {
            proofs[p] = new Proof();
        }
        sheets = new Sheet[SHEETS];
        for (int k = 0; k < SHEETS; k++) {
            sheets[k] = new Sheet();
        }
        reader = new Reader();
        sizes = new Sizes();
        order = new Order();
        shortener = new Shortener();
        tables = new Truths();
        ordered = NOTHING;
    }

    // ---- 1 proofs

    public int text(int sheet, int lane, int i, int n) {
        if (!isSheet(sheet)) {
            return unfaulted(UNKNOWN);
        }
        if (!isLane(lane)) {
            return unfaulted(OUTSIDE);
        }
        Sheet from = sheets[sheet];
        int met = from.faultAs(lane);
        if (met == NO_FAULT && n < 0) {
            met = FAULT_SIZE;
        }
        if (met == NO_FAULT && !from.hasCells(i, n)) {
            met = FAULT_INDEX;
        }
        if (met != NO_FAULT) {
            return faulted(met);
        }
        reader.take(from, i, n);
        if (!reader.isText()) {
            return unfaulted(WRONG_BASE - reader.place);
        }
        return unfaulted(kept(reader.proof));
    }

    public int line(int p, int l, int what) {
        if (!isLine(p, l)) {
            return UNKNOWN;
        }
        Proof proof = proofs[p];
        switch (what) {
            case 0:
                return proof.clauses[l];
            case 1:
                return proof.kindOf(l);
            case 2:
                return proof.lefts[l];
            case 3:
                return proof.rights[l];
            case 4:
                return proof.letters[l];
            default:
                return OUTSIDE;
        }
    }

    public int size(int p, int what) {
        if (!isProof(p)) {
            return UNKNOWN;
        }
        Proof proof = proofs[p];
        switch (what) {
            case 0:
                return proof.count;
            case 1:
                return Sizes.signsOf(proof);
            case 2:
                return Sizes.widestOf(proof);
            case 3:
                return sizes.deepOf(proof);
            case 4:
                return sizes.keptOf(proof);
            case 5:
                return proof.groundCount;
            default:
                return OUTSIDE;
        }
    }

    public int rests(int p) {
        return isProof(p) ? (int) proofs[p].restSet() : UNKNOWN;
    }

    public int truly(int p) {
        if (!isProof(p)) {
            return UNKNOWN;
        }
        Proof proof = proofs[p];
        if (proof.groundCount > MOST_GROUNDS) {
            return STATE;
        }
        long rest = proof.restSet();
        int used = 0;
        for (int g = 0; g < proof.groundCount; g++) {
            if (isIn(proof.grounds[g], rest)) {
                used |= 1 << g;
            }
        }
        return used;
    }

    public int fewest(int p, int k) {
        if (!isProof(p) || k < -1 || k >= MOST_ORDERED) {
            return UNKNOWN;
        }
        if (Long.bitCount(proofs[p].restSet()) > MOST_ORDERED) {
            return STATE;
        }
        if (ordered != p) {
            order.arrange(proofs[p]);
            ordered = p;
        }
        if (k == -1) {
            return order.least;
        }
        return k < order.many ? order.row[k] : NONE;
    }

    // ---- 2 shorter

    public int shorter(int p, int way) {
        if (!isProof(p)) {
            return UNKNOWN;
        }
        if (way < DROP || way > UNITS_LAST) {
            return OUTSIDE;
        }
        return shortener.shortens(proofs[p], way) ? kept(shortener.draft) : STATE;
    }

    public int safe(int p, int l) {
        return isLine(p, l) ? shortener.safeSigns(proofs[p], l) : UNKNOWN;
    }

    public int twice(int p) {
        if (!isProof(p)) {
            return UNKNOWN;
        }
        Proof proof = proofs[p];
        return proof.count - proof.unlikeIn(proof);
    }

    public int heap(int p, int q) {
        if (!isProof(p) || !isProof(q)) {
            return UNKNOWN;
        }
        return shortener.heaps(proofs[p], proofs[q]) ? kept(shortener.draft) : STATE;
    }

    public int shared(int p, int q) {
        if (!isProof(p) || !isProof(q)) {
            return UNKNOWN;
        }
        return proofs[p].unlikeIn(proofs[q]);
    }

    // ---- 3 cores, middle

    public int core(int p, int what, int set) {
        if (!isProof(p)) {
            return UNKNOWN;
        }
        Proof proof = proofs[p];
        if (proof.groundCount > MOST_GROUNDS) {
            return STATE;
        }
        if (what < 0 || what > 3 || (what > 1 && !isGroundSet(proof, set))) {
            return OUTSIDE;
        }
        tables.fillTogether(proof);
        switch (what) {
            case 0:
                return tables.leastCore(1 << proof.groundCount);
            case 1:
                return tables.bareCores(1 << proof.groundCount);
            case 2:
                return tables.isCore(set) ? 1 : 0;
            default:
                return tables.isBare(set) ? 1 : 0;
        }
    }

    public long middle(int p, int part, int half) {
        if (!isTableAsked(p, part, half)) {
            return LOST;
        }
        Proof proof = proofs[p];
        if (proof.clauses[proof.count - 1] != 0) {
            return LOST;
        }
        return halfOf(tables.middleOf(proof, part), half);
    }

    public long truths(int p, int set, int half) {
        if (!isTableAsked(p, set, half)) {
            return LOST;
        }
        return halfOf(Truths.allOf(proofs[p], set), half);
    }

    // ---- 4 small truths

    public int cuts(int p, int clause) {
        if (!isProof(p)) {
            return UNKNOWN;
        }
        if (!Clauses.isClause(clause) || !Clauses.isSmall(clause)) {
            return OUTSIDE;
        }
        Proof proof = proofs[p];
        for (int g = 0; g < proof.groundCount; g++) {
            if (!Clauses.isSmall(proof.clauses[proof.grounds[g]])) {
                return STATE;
            }
        }
        return SmallTruths.fewestCuts(proof, clause);
    }

    public int units(int p, int clause) {
        if (!isProof(p)) {
            return UNKNOWN;
        }
        if (!Clauses.isClause(clause)) {
            return OUTSIDE;
        }
        return SmallTruths.isByUnits(proofs[p], clause) ? 1 : 0;
    }

    public int follows(int p, int clause) {
        if (!isProof(p)) {
            return UNKNOWN;
        }
        if (!Clauses.isClause(clause)) {
            return OUTSIDE;
        }
        long grounds = Truths.allOf(proofs[p], -1);
        return (grounds & ~Clauses.tableOf(clause)) == 0L ? 1 : 0;
    }

    // ---- 5 clauses

    public int cut(int left, int right, int letter) {
        if (!Clauses.isClause(left) || !Clauses.isClause(right) || letter < 0 || letter >= LETTERS) {
            return OUTSIDE;
        }
        return Clauses.cutOf(left, right, letter);
    }

    public int stronger(int a, int b) {
        if (!Clauses.isClause(a) || !Clauses.isClause(b)) {
            return OUTSIDE;
        }
        return Clauses.isPart(a, b) ? 1 : 0;
    }

    // ---- 6 sheets, parts

    public int sheet(int k, int lane, int n) {
        if (!isSheet(k)) {
            return unfaulted(UNKNOWN);
        }
        if (!isLane(lane) || n > MOST_CELLS) {
            return unfaulted(OUTSIDE);
        }
        if (n < 0) {
            return faulted(FAULT_SIZE);
        }
        sheets[k].begin(lane, n);
        return unfaulted(1);
    }

    public int lose(int k) {
        if (!isSheet(k)) {
            return UNKNOWN;
        }
        if (sheets[k].isNothing()) {
            return 0;
        }
        sheets[k].lane = NOTHING;
        return 1;
    }

    public int put(int k, int i, int v) {
        if (!isSheet(k)) {
            return unfaulted(UNKNOWN);
        }
        Sheet to = sheets[k];
        if (to.isNothing()) {
            return faulted(FAULT_NULL);
        }
        if (!to.hasCell(i)) {
            return faulted(FAULT_INDEX);
        }
        to.write(i, v);
        return unfaulted(1);
    }

    public long cell(int k, int i, int lane) {
        if (!isSheet(k) || !isLane(lane)) {
            latestFault = NO_FAULT;
            return LOST;
        }
        Sheet from = sheets[k];
        int met = from.faultAs(lane);
        if (met == NO_FAULT && !from.hasCell(i)) {
            met = FAULT_INDEX;
        }
        latestFault = met;
        return met == NO_FAULT ? (long) from.cells[i] : LOST;
    }

    public int copy(int k, int i, int other, int j, int n) {
        if (!isSheet(k) || !isSheet(other)) {
            return unfaulted(UNKNOWN);
        }
        Sheet from = sheets[k];
        Sheet to = sheets[other];
        if (from.isNothing() || to.isNothing()) {
            return faulted(FAULT_NULL);
        }
        if (from.lane != to.lane) {
            return faulted(FAULT_CAST);
        }
        if (!from.hasCells(i, n) || !to.hasCells(j, n)) {
            return faulted(FAULT_INDEX);
        }
        System.arraycopy(from.cells, i, to.cells, j, n);
        return unfaulted(n);
    }

    public int tell(int p, int l) {
        if (!isLine(p, l)) {
            return UNKNOWN;
        }
        Proof proof = proofs[p];
        switch (proof.kindOf(l)) {
            case 0:
                return toldAsGround(proof, l);
            case 1:
                return toldAsCut(proof, l);
            default:
                return toldAsEnd(proof, l);
        }
    }

    public int show(int p, int l) {
        if (!isLine(p, l)) {
            return UNKNOWN;
        }
        if (proofs[p].kindOf(l) == 2) {
            leave(5);
            return SHOWN_END;
        }
        leave(4);
        return l;
    }

    public int as(int p, int l, int kind) {
        if (!isLine(p, l)) {
            return unfaulted(UNKNOWN);
        }
        if (kind < 0 || kind > 2) {
            return unfaulted(OUTSIDE);
        }
        return kind <= proofs[p].kindOf(l) ? unfaulted(1) : faulted(FAULT_CAST);
    }

    public int trace() {
        return traced;
    }

    public int fault() {
        return latestFault;
    }

    public int many(int what) {
        if (what == 0) {
            return proofCount;
        }
        if (what != 1) {
            return OUTSIDE;
        }
        int lines = 0;
        for (int p = 0; p < proofCount; p++) {
            lines += proofs[p].count;
        }
        return lines;
    }

    // ---- what the calls share

    private boolean isProof(int p) {
        return p >= 0 && p < proofCount;
    }

    private boolean isLine(int p, int l) {
        return isProof(p) && l >= 0 && l < proofs[p].count;
    }

    private static boolean isSheet(int k) {
        return k >= 0 && k < SHEETS;
    }

    private static boolean isLane(int lane) {
        return lane >= 0 && lane <= MOST_LANE;
    }

    private static boolean isIn(int number, long set) {
        return (set >> number & 1L) != 0L;
    }

    private static boolean isGroundSet(Proof proof, int set) {
        return set >= 0 && set < 1 << proof.groundCount;
    }

    private boolean isTableAsked(int p, int set, int half) {
        return isProof(p) && (half == 0 || half == 1)
            && proofs[p].groundCount <= MOST_GROUNDS && isGroundSet(proofs[p], set);
    }

    private static long halfOf(long table, int half) {
        return half == 0 ? table & LOW_HALF : table >>> 32;
    }

    private int faulted(int met) {
        latestFault = met;
        return FAULT_BASE - met;
    }

    private int unfaulted(int answer) {
        latestFault = NO_FAULT;
        return answer;
    }

    private int kept(Proof made) {
        if (proofCount >= MOST_PROOFS) {
            return FULL;
        }
        proofs[proofCount].take(made);
        proofCount++;
        return proofCount - 1;
    }

    private void leave(int number) {
        traced = 31 * traced + number;
    }

    private int toldAsGround(Proof proof, int l) {
        leave(1);
        return proof.clauses[l];
    }

    private int toldAsCut(Proof proof, int l) {
        leave(2);
        return toldAsGround(proof, l) + proof.lefts[l] + proof.rights[l];
    }

    private int toldAsEnd(Proof proof, int l) {
        leave(3);
        int asCut = toldAsCut(proof, l);
        return asCut + toldAsGround(proof, l);
    }

    /** Clauses as numbers: six bits of letters, six bits of letters with not. */
    private static final class Clauses {
        static boolean isClause(int number) {
            return number >= 0 && number <= ALL_SIGNS && (number & number >> LETTERS) == 0;
        }

        static boolean isSmall(int clause) {
            return lettersOf(clause) < 1 << SMALL_LETTERS;
        }

        static boolean isPart(int part, int whole) {
            return (part & ~whole) == 0;
        }

        static int plain(int letter) {
            return 1 << letter;
        }

        static int negated(int letter) {
            return 1 << letter + LETTERS;
        }

        /** Each sign as the other sign of its letter. */
        static int others(int signs) {
            return signs >> LETTERS | signs << LETTERS & ALL_SIGNS;
        }

        static int lettersOf(int signs) {
            return (signs | signs >> LETTERS) & (1 << LETTERS) - 1;
        }

        static int cutOf(int left, int right, int letter) {
            int plain = plain(letter);
            int negated = negated(letter);
            if (!isPart(plain, left) || !isPart(negated, right)) {
                return NONE;
            }
            int rest = left & ~plain | right & ~negated;
            return isClause(rest) ? rest : NONE;
        }

        static long tableOf(int clause) {
            long table = 0L;
            for (int letter = 0; letter < LETTERS; letter++) {
                if (isPart(plain(letter), clause)) {
                    table |= LETTER_TABLES[letter];
                }
                if (isPart(negated(letter), clause)) {
                    table |= ~LETTER_TABLES[letter];
                }
            }
            return table;
        }
    }

    /** Lines in rows; of a ground left, right and letter are NONE. */
    private static final class Proof {
        final int[] clauses = new int[WORK_LINES];
        final int[] lefts = new int[WORK_LINES];
        final int[] rights = new int[WORK_LINES];
        final int[] letters = new int[WORK_LINES];
        /** The lines that are grounds, in their order. */
        final int[] grounds = new int[WORK_LINES];
        int count;
        int groundCount;

        void clear() {
            count = 0;
            groundCount = 0;
        }

        boolean isGround(int l) {
            return lefts[l] < 0;
        }

        int kindOf(int l) {
            if (isGround(l)) {
                return 0;
            }
            return l == count - 1 ? 2 : 1;
        }

        /** The new line's number; STATE, where there is no place for it. */
        int add(int clause, int left, int right, int letter) {
            if (count >= WORK_LINES) {
                return STATE;
            }
            clauses[count] = clause;
            lefts[count] = left;
            rights[count] = right;
            letters[count] = letter;
            if (left < 0) {
                grounds[groundCount] = count;
                groundCount++;
            }
            count++;
            return count - 1;
        }

        int addGround(int clause) {
            return add(clause, NONE, NONE, NONE);
        }

        void take(Proof made) {
            clear();
            for (int l = 0; l < made.count; l++) {
                add(made.clauses[l], made.lefts[l], made.rights[l], made.letters[l]);
            }
        }

        long restSet() {
            return restSetOf(count - 1);
        }

        long restSetOf(int end) {
            long rest = 1L << end;
            for (int l = end; l >= 0; l--) {
                if (isIn(l, rest) && !isGround(l)) {
                    rest |= 1L << lefts[l] | 1L << rights[l];
                }
            }
            return rest;
        }

        boolean isCutFrom(int l, int ahead) {
            return !isGround(l) && (lefts[l] == ahead || rights[l] == ahead);
        }

        /** The first of the lines ahead of one that has a clause; NONE. */
        int firstWith(int clause, int before) {
            for (int l = 0; l < before; l++) {
                if (clauses[l] == clause) {
                    return l;
                }
            }
            return NONE;
        }

        int firstPartOf(int clause) {
            for (int l = 0; l < count; l++) {
                if ((clauses[l] & ~clause) == 0) {
                    return l;
                }
            }
            return NONE;
        }

        /** How many unlike clauses it has that another one has, too. */
        int unlikeIn(Proof other) {
            int many = 0;
            for (int l = 0; l < count; l++) {
                if (firstWith(clauses[l], l) == NONE && other.firstWith(clauses[l], other.count) != NONE) {
                    many++;
                }
            }
            return many;
        }

        /** Lines are written no later than where they are read, so one set of rows is enough. */
        void keepOnly(long set, int[] numbers) {
            int before = count;
            clear();
            for (int l = 0; l < before; l++) {
                if (!isIn(l, set)) {
                    continue;
                }
                if (isGround(l)) {
                    numbers[l] = addGround(clauses[l]);
                } else {
                    numbers[l] = add(clauses[l], numbers[lefts[l]], numbers[rights[l]], letters[l]);
                }
            }
        }
    }

    /** What a sheet has: the lane NOTHING tells that it has no row. */
    private static final class Sheet {
        final int[] cells = new int[MOST_CELLS];
        int lane = NOTHING;
        int length;

        boolean isNothing() {
            return lane == NOTHING;
        }

        void begin(int newLane, int newLength) {
            lane = newLane;
            length = newLength;
            for (int i = 0; i < MOST_CELLS; i++) {
                cells[i] = 0;
            }
        }

        /** The fault of taking it as a row of a lane: nothing is of every lane, but no row. */
        int faultAs(int wanted) {
            if (isNothing()) {
                return FAULT_NULL;
            }
            return lane == wanted ? NO_FAULT : FAULT_CAST;
        }

        boolean hasCell(int i) {
            return i >= 0 && i < length;
        }

        boolean hasCells(int i, int n) {
            return i >= 0 && i <= length && n >= 0 && n <= length - i;
        }

        void write(int i, int v) {
            if (lane == 0) {
                cells[i] = (byte) v;
            } else if (lane == 1) {
                cells[i] = (short) v;
            } else {
                cells[i] = v;
            }
        }
    }

    /** Reads a text; its place stays at the first wrong code, or behind the last one. */
    private static final class Reader {
        final int[] codes = new int[MOST_CELLS];
        final Proof proof = new Proof();
        int count;
        int place;

        void take(Sheet from, int i, int n) {
            System.arraycopy(from.cells, i, codes, 0, n);
            count = n;
        }

        boolean isText() {
            proof.clear();
            place = 0;
            for (int item = 1; item <= MOST_ITEMS; item++) {
                if (!readsItem()) {
                    return false;
                }
                if (place == count) {
                    return true;
                }
                if (item == MOST_ITEMS || !reads(';')) {
                    return false;
                }
            }
            return false;
        }

        /** NONE behind the last code: no sign of a text, so that what is wanted there is wrong. */
        private int codeAt(int at) {
            return at < count ? codes[at] : NONE;
        }

        private boolean reads(int wanted) {
            if (codeAt(place) != wanted) {
                return false;
            }
            place++;
            return true;
        }

        private boolean readsItem() {
            if (reads('g')) {
                proof.addGround(readSigns());
                return true;
            }
            return reads('c') && readsCut();
        }

        /** Stops at what is no sign, or a letter's second one: no ; either, so it is wrong. */
        private int readSigns() {
            int clause = 0;
            for (int k = 0; k < LETTERS; k++) {
                int sign = signOf(codeAt(place));
                if (sign == 0 || (Clauses.lettersOf(sign) & Clauses.lettersOf(clause)) != 0) {
                    return clause;
                }
                clause |= sign;
                place++;
            }
            return clause;
        }

        private static int signOf(int code) {
            if (code >= 'a' && code < 'a' + LETTERS) {
                return Clauses.plain(code - 'a');
            }
            if (code >= 'A' && code < 'A' + LETTERS) {
                return Clauses.negated(code - 'A');
            }
            return 0;
        }

        private boolean readsCut() {
            int left = readLine();
            if (left == NONE || !reads(',')) {
                return false;
            }
            int right = readLine();
            if (right == NONE) {
                return false;
            }
            int code = codeAt(place);
            if (code < 'a' || code >= 'a' + LETTERS) {
                return false;
            }
            int letter = code - 'a';
            int clause = Clauses.cutOf(proof.clauses[left], proof.clauses[right], letter);
            if (clause == NONE) {
                return false;
            }
            proof.add(clause, left, right, letter);
            place++;
            return true;
        }

        /** The number of a line ahead; NONE, with the place at the first digit. */
        private int readLine() {
            if (!isDigit(codeAt(place))) {
                return NONE;
            }
            int number = codeAt(place) - '0';
            int digits = 1;
            if (isDigit(codeAt(place + 1))) {
                number = 10 * number + codeAt(place + 1) - '0';
                digits = 2;
            }
            if (number >= proof.count) {
                return NONE;
            }
            place += digits;
            return number;
        }

        private static boolean isDigit(int code) {
            return code >= '0' && code <= '9';
        }
    }

    /** Sizes of proofs. */
    private static final class Sizes {
        final int[] deep = new int[WORK_LINES];
        final int[] lastUse = new int[WORK_LINES];

        static int signsOf(Proof proof) {
            int signs = 0;
            for (int l = 0; l < proof.count; l++) {
                signs += Integer.bitCount(proof.clauses[l]);
            }
            return signs;
        }

        static int widestOf(Proof proof) {
            int widest = 0;
            for (int l = 0; l < proof.count; l++) {
                widest = Math.max(widest, Integer.bitCount(proof.clauses[l]));
            }
            return widest;
        }

        int deepOf(Proof proof) {
            for (int l = 0; l < proof.count; l++) {
                deep[l] = proof.isGround(l) ? 0 : 1 + Math.max(deep[proof.lefts[l]], deep[proof.rights[l]]);
            }
            return deep[proof.count - 1];
        }

        int keptOf(Proof proof) {
            for (int l = 0; l < proof.count; l++) {
                lastUse[l] = l;
                if (!proof.isGround(l)) {
                    lastUse[proof.lefts[l]] = l;
                    lastUse[proof.rights[l]] = l;
                }
            }
            int most = 0;
            for (int now = 0; now < proof.count; now++) {
                int kept = 0;
                for (int l = 0; l <= now; l++) {
                    if (lastUse[l] >= now) {
                        kept++;
                    }
                }
                most = Math.max(most, kept);
            }
            return most;
        }
    }

    /** The order in which the fewest lines are kept, over the sets of lines that have come. */
    private static final class Order {
        private static final int NEVER = 99;

        final int[] row = new int[MOST_ORDERED];
        int many;
        int least;
        /** The lines on which the end rests, in their order; the sets below tell them by place here. */
        private final int[] lines = new int[MOST_ORDERED];
        private final int[] needs = new int[MOST_ORDERED];
        private final int[] uses = new int[MOST_ORDERED];
        /** By the set that has come: the least that the rest can keep, as the dearest line of it comes. */
        private final byte[] ahead = new byte[1 << MOST_ORDERED];

        /** For a proof whose end rests on no more than MOST_ORDERED lines. */
        void arrange(Proof proof) {
            number(proof);
            int all = (1 << many) - 1;
            ahead[all] = 0;
            for (int come = all - 1; come >= 0; come--) {
                ahead[come] = (byte) Math.max(1 + keptOf(come), leastBehind(come));
            }
            least = ahead[0];
            fillRow();
        }

        private void number(Proof proof) {
            long rest = proof.restSet();
            many = 0;
            for (int l = 0; l < proof.count; l++) {
                if (isIn(l, rest) && many < MOST_ORDERED) {
                    lines[many] = l;
                    needs[many] = 0;
                    uses[many] = 0;
                    linkTo(proof, many);
                    many++;
                }
            }
        }

        private void linkTo(Proof proof, int user) {
            for (int k = 0; k < user; k++) {
                if (proof.isCutFrom(lines[user], lines[k])) {
                    needs[user] |= 1 << k;
                    uses[k] |= 1 << user;
                }
            }
        }

        private int keptOf(int come) {
            int kept = 0;
            for (int k = 0; k < many; k++) {
                if ((come >> k & 1) != 0 && (uses[k] & ~come) != 0) {
                    kept++;
                }
            }
            return kept;
        }

        private boolean mayCome(int k, int come) {
            return (come >> k & 1) == 0 && (needs[k] & ~come) == 0;
        }

        private int leastBehind(int come) {
            int best = NEVER;
            for (int k = 0; k < many; k++) {
                if (mayCome(k, come)) {
                    best = Math.min(best, ahead[come | 1 << k]);
                }
            }
            return best;
        }

        private void fillRow() {
            int come = 0;
            for (int at = 0; at < many; at++) {
                int next = firstOf(come);
                row[at] = lines[next];
                come |= 1 << next;
            }
        }

        private int firstOf(int come) {
            for (int k = 0; k < many; k++) {
                if (mayCome(k, come) && ahead[come | 1 << k] <= least) {
                    return k;
                }
            }
            return 0;
        }
    }

    /** Makes shorter proofs and heaps in its draft. */
    private static final class Shortener {
        final Proof draft = new Proof();
        /** By an old line: the new one that stands for it. */
        private final int[] stands = new int[WORK_LINES];
        private final int[] safes = new int[WORK_LINES];
        private final int[] numbers = new int[WORK_LINES];
        private long unitSet;

        /** Whether there is such a proof. */
        boolean shortens(Proof proof, int way) {
            draft.clear();
            fillSafes(proof);
            unitSet = unitsOf(proof);
            if (!goesThrough(proof, way)) {
                return false;
            }
            int end = stands[proof.count - 1];
            if (way == UNITS_LAST) {
                end = cutUnits(proof, end);
            }
            if (end < 0) {
                return false;
            }
            draft.keepOnly(draft.restSetOf(end), numbers);
            return true;
        }

        /** Whether the heap is no longer than a proof may be. */
        boolean heaps(Proof first, Proof second) {
            draft.clear();
            if (!goesThrough(first, JOIN) || !goesThrough(second, JOIN)) {
                return false;
            }
            int end = stands[second.count - 1];
            draft.keepOnly((1L << end + 1) - 1L, numbers);
            return draft.count <= MOST_LINES;
        }

        int safeSigns(Proof proof, int l) {
            fillSafes(proof);
            return safes[l];
        }

        /** From the end back, so that all cuts made from a line have told theirs ahead of it. */
        private void fillSafes(Proof proof) {
            int end = proof.count - 1;
            long rest = proof.restSet();
            for (int l = 0; l < end; l++) {
                safes[l] = ALL_SIGNS;
            }
            safes[end] = proof.clauses[end];
            for (int l = end; l >= 0; l--) {
                if (isIn(l, rest) && !proof.isGround(l)) {
                    safes[proof.lefts[l]] &= safes[l] | Clauses.plain(proof.letters[l]);
                    safes[proof.rights[l]] &= safes[l] | Clauses.negated(proof.letters[l]);
                }
            }
        }

        private static long unitsOf(Proof proof) {
            long rest = proof.restSet();
            long found = 0L;
            for (int l = 0; l < proof.count - 1; l++) {
                if (isIn(l, rest) && Integer.bitCount(proof.clauses[l]) == 1 && cutsFrom(proof, l, rest) >= 2) {
                    found |= 1L << l;
                }
            }
            return found;
        }

        private static int cutsFrom(Proof proof, int ahead, long rest) {
            int made = 0;
            for (int l = ahead + 1; l < proof.count; l++) {
                if (isIn(l, rest) && proof.isCutFrom(l, ahead)) {
                    made++;
                }
            }
            return made;
        }

        private boolean goesThrough(Proof proof, int way) {
            for (int l = 0; l < proof.count; l++) {
                stands[l] = standIn(proof, l, way);
                if (stands[l] < 0) {
                    return false;
                }
            }
            return true;
        }

        /** What the way itself says of a cut goes ahead of what all ways say. */
        private int standIn(Proof proof, int l, int way) {
            if (proof.isGround(l)) {
                return placed(proof.clauses[l], NONE, NONE, NONE, way);
            }
            int left = stands[proof.lefts[l]];
            int right = stands[proof.rights[l]];
            int letter = proof.letters[l];
            if (way == CUT_ONCE && Clauses.isPart(Clauses.plain(letter), safes[l])) {
                return left;
            }
            if (way == CUT_ONCE && Clauses.isPart(Clauses.negated(letter), safes[l])) {
                return right;
            }
            if (way == UNITS_LAST && isIn(proof.lefts[l], unitSet)) {
                return right;
            }
            if (way == UNITS_LAST && isIn(proof.rights[l], unitSet)) {
                return left;
            }
            return cutAnew(left, right, letter, way);
        }

        private int cutAnew(int left, int right, int letter, int way) {
            if (!Clauses.isPart(Clauses.plain(letter), draft.clauses[left])) {
                return left;
            }
            if (!Clauses.isPart(Clauses.negated(letter), draft.clauses[right])) {
                return right;
            }
            int clause = Clauses.cutOf(draft.clauses[left], draft.clauses[right], letter);
            return clause == NONE ? STATE : placed(clause, left, right, letter, way);
        }

        private int placed(int clause, int left, int right, int letter, int way) {
            int standing = NONE;
            if (way == JOIN) {
                standing = draft.firstWith(clause, draft.count);
            } else if (way == STRONGER) {
                standing = draft.firstPartOf(clause);
            }
            return standing == NONE ? draft.add(clause, left, right, letter) : standing;
        }

        /** What stands for the end, when the units are cut from it; STATE: some make no clause. */
        private int cutUnits(Proof proof, int end) {
            int standing = end;
            for (int l = proof.count - 1; l >= 0 && standing >= 0; l--) {
                if (isIn(l, unitSet)) {
                    standing = cutUnit(standing, stands[l], proof.clauses[l]);
                }
            }
            return standing;
        }

        private int cutUnit(int end, int unit, int sign) {
            if (!Clauses.isPart(sign, draft.clauses[unit])) {
                return unit;
            }
            if (!Clauses.isPart(Clauses.others(sign), draft.clauses[end])) {
                return end;
            }
            int letter = Integer.numberOfTrailingZeros(Clauses.lettersOf(sign));
            boolean isLeft = sign == Clauses.plain(letter);
            return cutAnew(isLeft ? unit : end, isLeft ? end : unit, letter, UNITS_LAST);
        }
    }

    /** Tables of 64 truths. */
    private static final class Truths {
        /** By a set of grounds: where all of them are true. */
        private final long[] together = new long[1 << MOST_GROUNDS];
        private final long[] between = new long[WORK_LINES];

        static long allOf(Proof proof, int set) {
            long all = ALL_TRUE;
            for (int g = 0; g < proof.groundCount; g++) {
                if (isIn(g, set)) {
                    all &= Clauses.tableOf(proof.clauses[proof.grounds[g]]);
                }
            }
            return all;
        }

        /** For a proof with no more than MOST_GROUNDS grounds. */
        void fillTogether(Proof proof) {
            together[0] = ALL_TRUE;
            for (int g = 0; g < proof.groundCount && g < MOST_GROUNDS; g++) {
                long table = Clauses.tableOf(proof.clauses[proof.grounds[g]]);
                for (int set = 0; set < 1 << g; set++) {
                    together[set | 1 << g] = together[set] & table;
                }
            }
        }

        boolean isCore(int set) {
            return together[set] == 0L;
        }

        boolean isBare(int set) {
            if (!isCore(set)) {
                return false;
            }
            for (int g = 0; g < MOST_GROUNDS; g++) {
                if (isIn(g, set) && isCore(set & ~(1 << g))) {
                    return false;
                }
            }
            return true;
        }

        int leastCore(int sets) {
            int best = NONE;
            for (int set = 0; set < sets; set++) {
                if (isCore(set) && (best == NONE || Integer.bitCount(set) < Integer.bitCount(best))) {
                    best = set;
                }
            }
            return best;
        }

        int bareCores(int sets) {
            int bare = 0;
            for (int set = 0; set < sets; set++) {
                if (isBare(set)) {
                    bare++;
                }
            }
            return bare;
        }

        long middleOf(Proof proof, int part) {
            int ofPart = 0;
            int ofOthers = 0;
            for (int g = 0; g < proof.groundCount; g++) {
                int l = proof.grounds[g];
                int letters = Clauses.lettersOf(proof.clauses[l]);
                if (isIn(g, part)) {
                    ofPart |= letters;
                    between[l] = 0L;
                } else {
                    ofOthers |= letters;
                    between[l] = ALL_TRUE;
                }
            }
            for (int l = 0; l < proof.count; l++) {
                if (!proof.isGround(l)) {
                    between[l] = middleOfCut(proof, l, ofPart, ofOthers);
                }
            }
            return between[proof.count - 1];
        }

        private long middleOfCut(Proof proof, int l, int ofPart, int ofOthers) {
            long left = between[proof.lefts[l]];
            long right = between[proof.rights[l]];
            int letter = proof.letters[l];
            if (!isIn(letter, ofOthers)) {
                return left | right;
            }
            if (!isIn(letter, ofPart)) {
                return left & right;
            }
            long isTrue = LETTER_TABLES[letter];
            return left & ~isTrue | right & isTrue;
        }
    }

    /** What the grounds of a proof yield by few cuts, or by units alone. */
    private static final class SmallTruths {
        /** Codes of small clauses have three bits a sign, so that a set of clauses is a long. */
        private static int codeOf(int clause) {
            return clause & 7 | (clause >> LETTERS & 7) << SMALL_LETTERS;
        }

        static int fewestCuts(Proof proof, int clause) {
            long had = 0L;
            for (int g = 0; g < proof.groundCount; g++) {
                had |= 1L << codeOf(proof.clauses[proof.grounds[g]]);
            }
            long wanted = 0L;
            long next = 0L;
            for (int code = 0; code < SMALL_CODES; code++) {
                if (Clauses.isPart(code, codeOf(clause))) {
                    wanted |= 1L << code;
                }
                if (isIn(code, had)) {
                    next |= cutsWith(code, had);
                }
            }
            return (had & wanted) != 0L ? 0 : furtherCuts(had, next, wanted, MOST_CUTS);
        }

        /** All cuts of a clause and one of a set: of two that are unlike in the sign of just one letter. */
        private static long cutsWith(int code, long had) {
            long made = 0L;
            for (int other = 0; other < SMALL_CODES; other++) {
                if (!isIn(other, had)) {
                    continue;
                }
                int clash = (code & other >> SMALL_LETTERS | code >> SMALL_LETTERS & other) & 7;
                if (Integer.bitCount(clash) == 1) {
                    made |= 1L << ((code | other) & ~(clash | clash << SMALL_LETTERS));
                }
            }
            return made;
        }

        /** How many cuts more, 1 .. most; NONE. The set next has all that one cut yields. */
        private static int furtherCuts(long had, long next, long wanted, int most) {
            if ((next & wanted) != 0L) {
                return 1;
            }
            int best = NONE;
            for (int code = 0; code < SMALL_CODES && most > 1 && best != 2; code++) {
                if (!isIn(code, next & ~had)) {
                    continue;
                }
                int more = furtherCuts(had | 1L << code, next | cutsWith(code, had), wanted, most - 1);
                if (more != NONE && (best == NONE || more + 1 < best)) {
                    best = more + 1;
                }
            }
            return best;
        }

        static boolean isByUnits(Proof proof, int clause) {
            int untrue = clause;
            for (int letter = 0; letter < LETTERS; letter++) {
                untrue = withUnits(proof, untrue);
            }
            for (int g = 0; g < proof.groundCount; g++) {
                if (Clauses.isPart(proof.clauses[proof.grounds[g]], untrue)) {
                    return true;
                }
            }
            return false;
        }

        /** Each going through tells one letter more or none, so as many as there are letters are enough. */
        private static int withUnits(Proof proof, int untrue) {
            int known = untrue;
            for (int g = 0; g < proof.groundCount; g++) {
                int open = proof.clauses[proof.grounds[g]] & ~known;
                if (Integer.bitCount(open) == 1 && !Clauses.isPart(Clauses.others(open), known)) {
                    known |= Clauses.others(open);
                }
            }
            return known;
        }
    }
}
