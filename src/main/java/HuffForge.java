import java.util.Arrays;

/** Tables of code words for symbols, and a row of bits written and read by them. */
public final class HuffForge {
    /** There is none. */
    public static final int NONE = -1;

    private static final int SYMBOLS = 256;
    private static final int LONGEST_WORD = 16;
    private static final int GREATEST_COUNT = 255;
    private static final int MOST_COMES = 1000000;
    private static final int ROW_BITS = 65536;
    private static final int CELL_BITS = 32;

    /* One place more than there are symbols: its word is the one that would be all 1s, and goes. */
    private static final int PLACES = SYMBOLS + 1;
    private static final int EXTRA_PLACE = SYMBOLS;

    private static final int FAULT_COUNTS = -1;
    private static final int FAULT_TWICE = -2;
    private static final int FAULT_ALL_ONES = -3;

    private static final int ROW_ENDS = -1;
    private static final int NO_SUCH_WORD = -2;

    private final Draft draft;
    private final Table table;
    private final Tally tally;
    private final BestFinder finder;
    private final BitRow row;

    public HuffForge() {
        draft = new Draft();
        table = new Table();
        tally = new Tally();
        finder = new BestFinder();
        row = new BitRow();
    }

    public boolean count(int length, int n) {
        if (!isWordLength(length) || n < 0 || n > GREATEST_COUNT) {
            return false;
        }
        draft.counts[length] = n;
        return true;
    }

    public int symbol(int s) {
        if (!isSymbol(s) || draft.size >= SYMBOLS) {
            return NONE;
        }
        draft.symbols[draft.size] = s;
        draft.size++;
        return draft.size;
    }

    public void wipe() {
        draft.clear();
    }

    public int make() {
        int fault = draft.fault();
        if (fault != 0) {
            return fault;
        }
        table.become(draft.counts, draft.symbols);
        return table.size;
    }

    public int comes(int s, int n) throws IllegalArgumentException, IllegalStateException {
        if (!isSymbol(s)) {
            throw new IllegalArgumentException("no such symbol");
        }
        if (n < 0) {
            throw new IllegalArgumentException("n is below 0");
        }
        if (n > MOST_COMES - tally.total) {
            throw new IllegalStateException("more than 1000000 together");
        }
        tally.add(s, n);
        return tally.numbers[s];
    }

    public void forget() {
        tally.clear();
    }

    public long best() {
        finder.find(tally.numbers);
        table.become(finder.counts, finder.symbols);
        return table.bitsOfAll(tally.numbers);
    }

    public int length(int s) {
        return table.hasWord(s) ? table.lengths[s] : 0;
    }

    public int code(int s) {
        return table.hasWord(s) ? table.codes[s] : NONE;
    }

    public int of(int what, int i) {
        if (what == 0 && isWordLength(i)) {
            return table.counts[i];
        }
        if (what == 1 && i >= 0 && i < table.size) {
            return table.symbols[i];
        }
        return NONE;
    }

    public int put(int s) throws IllegalArgumentException, IllegalStateException {
        if (!table.hasWord(s)) {
            throw new IllegalArgumentException("the symbol has no word");
        }
        if (!row.hasRoom(table.lengths[s])) {
            throw new IllegalStateException("no room for the word");
        }
        row.append(table.codes[s], table.lengths[s]);
        return row.size;
    }

    public int raw(int v, int n) throws IllegalArgumentException, IllegalStateException {
        if (!isBitNumber(n)) {
            throw new IllegalArgumentException("n is not 0 .. 16");
        }
        if (!row.hasRoom(n)) {
            throw new IllegalStateException("no room for the bits");
        }
        row.append(v, n);
        return row.size;
    }

    public int get() {
        int there = Math.min(row.left(), LONGEST_WORD);
        if (there == 0) {
            return ROW_ENDS;
        }
        int found = table.symbolAhead(row.ahead(there), there);
        if (found >= 0) {
            row.place += table.lengths[found];
        }
        return found;
    }

    public int bits(int n) {
        if (!isBitNumber(n) || n > row.left()) {
            return NONE;
        }
        int value = row.ahead(n);
        row.place += n;
        return value;
    }

    public boolean seek(int p) {
        if (p < 0 || p > row.size) {
            return false;
        }
        row.place = p;
        return true;
    }

    public boolean cut(int n) {
        if (n < 0 || n > row.size) {
            return false;
        }
        row.size = n;
        row.place = Math.min(row.place, n);
        return true;
    }

    public int look(int which) {
        switch (which) {
            case 0: return table.size;
            case 1: return draft.size;
            case 2: return row.size;
            case 3: return row.place;
            case 4: return tally.total;
            case 5: return tally.kinds();
            case 6: return greatestLength(table.counts, LONGEST_WORD);
            default: return NONE;
        }
    }

    private static boolean isSymbol(int s) {
        return s >= 0 && s < SYMBOLS;
    }

    private static boolean isWordLength(int length) {
        return length >= 1 && length <= LONGEST_WORD;
    }

    private static boolean isBitNumber(int n) {
        return n >= 0 && n <= LONGEST_WORD;
    }

    /** The greatest length, from the given one down, that a word has; 0 if none has one. */
    private static int greatestLength(int[] counts, int from) {
        for (int n = Math.min(from, counts.length - 1); n > 0; n--) {
            if (counts[n] > 0) {
                return n;
            }
        }
        return 0;
    }

    /** COUNTS and symbols that may become a table. */
    private static final class Draft {
        final int[] counts = new int[LONGEST_WORD + 1];
        final int[] symbols = new int[SYMBOLS];
        int size;
        private final boolean[] seen = new boolean[SYMBOLS];

        void clear() {
            Arrays.fill(counts, 0);
            size = 0;
        }

        /** 0 if the draft is right. */
        int fault() {
            if (sumOfCounts() != size) {
                return FAULT_COUNTS;
            }
            if (hasSymbolTwice()) {
                return FAULT_TWICE;
            }
            return hasWordTooGreat() ? FAULT_ALL_ONES : 0;
        }

        private int sumOfCounts() {
            int sum = 0;
            for (int n = 1; n <= LONGEST_WORD; n++) {
                sum += counts[n];
            }
            return sum;
        }

        private boolean hasSymbolTwice() {
            for (int s = 0; s < SYMBOLS; s++) {
                seen[s] = false;
            }
            for (int i = 0; i < size; i++) {
                if (seen[symbols[i]]) {
                    return true;
                }
                seen[symbols[i]] = true;
            }
            return false;
        }

        private boolean hasWordTooGreat() {
            int next = 0;
            for (int n = 1; n <= LONGEST_WORD; n++) {
                next = 2 * next + counts[n];
                // With next at 1 << n, the last word of n bits would be all 1s.
                if (next >= 1 << n) {
                    return true;
                }
            }
            return false;
        }
    }

    /** The words that symbols have. */
    private static final class Table {
        final int[] counts = new int[LONGEST_WORD + 1];
        final int[] symbols = new int[SYMBOLS];
        final int[] lengths = new int[SYMBOLS];
        final int[] codes = new int[SYMBOLS];
        int size;

        /** Takes over counts (by length, from 1 on) and as many symbols as they tell. */
        void become(int[] newCounts, int[] newSymbols) {
            Arrays.fill(lengths, 0);
            size = 0;
            int code = 0;
            for (int n = 1; n <= LONGEST_WORD; n++) {
                counts[n] = newCounts[n];
                code = 2 * code;
                for (int k = 0; k < counts[n] && size < SYMBOLS; k++) {
                    addWord(newSymbols[size], n, code);
                    code++;
                }
            }
        }

        private void addWord(int s, int length, int code) {
            symbols[size] = s;
            lengths[s] = length;
            codes[s] = code;
            size++;
        }

        boolean hasWord(int s) {
            return isSymbol(s) && lengths[s] > 0;
        }

        long bitsOfAll(int[] numbers) {
            long sum = 0;
            for (int s = 0; s < SYMBOLS; s++) {
                sum += (long) numbers[s] * lengths[s];
            }
            return sum;
        }

        /** The symbol whose word the bits (there are so many of them) begin with, or a fault of get. */
        int symbolAhead(int bitsThere, int there) {
            boolean begun = false;
            for (int i = 0; i < size; i++) {
                int s = symbols[i];
                int missing = lengths[s] - there;
                if (missing > 0) {
                    begun = begun || codes[s] >> missing == bitsThere;
                } else if (bitsThere >> -missing == codes[s]) {
                    return s;
                }
            }
            return begun ? ROW_ENDS : NO_SUCH_WORD;
        }
    }

    /** How often symbols have come. */
    private static final class Tally {
        final int[] numbers = new int[SYMBOLS];
        int total;

        void add(int s, int n) {
            numbers[s] += n;
            total += n;
        }

        void clear() {
            Arrays.fill(numbers, 0);
            total = 0;
        }

        int kinds() {
            int sum = 0;
            for (int s = 0; s < SYMBOLS; s++) {
                if (numbers[s] > 0) {
                    sum++;
                }
            }
            return sum;
        }
    }

    /** Finds the best table; its rows are made once, since each call would need them anew. */
    private static final class BestFinder {
        /* A tree of 257 leaves has 256 forks, and is at most 256 deep. */
        private static final int NODES = 2 * PLACES - 1;

        /** By length; after find none above the longest word is left. */
        final int[] counts = new int[PLACES];
        final int[] symbols = new int[SYMBOLS];

        private final int[] weights = new int[PLACES];
        private final int[] groups = new int[PLACES];
        private int groupsLeft;
        private final int[] nodeOf = new int[PLACES];
        private final int[] parents = new int[NODES];
        private final int[] depths = new int[NODES];
        private int nodes;

        void find(int[] numbers) {
            Arrays.fill(counts, 0);
            startGroups(numbers);
            if (groupsLeft < 2) {
                return;
            }
            joinGroups();
            measureDepths();
            countLengths();
            orderSymbols();
            shortenLengths();
            dropLongestWord();
        }

        private void startGroups(int[] numbers) {
            groupsLeft = 0;
            for (int p = 0; p < PLACES; p++) {
                weights[p] = p == EXTRA_PLACE ? 1 : numbers[p];
                nodeOf[p] = p;
                depths[p] = 0;
                if (weights[p] > 0) {
                    groups[groupsLeft] = p;
                    groupsLeft++;
                }
            }
            nodes = PLACES;
        }

        private void joinGroups() {
            for (int joined = 0; joined < PLACES - 1 && groupsLeft > 1; joined++) {
                int a = takeLeastGroup();
                int b = takeLeastGroup();
                parents[nodeOf[a]] = nodes;
                parents[nodeOf[b]] = nodes;
                nodeOf[a] = nodes;
                nodes++;
                weights[a] += weights[b];
                groups[groupsLeft] = a;
                groupsLeft++;
            }
        }

        /** Takes the group of the least number, of several the one in the greatest place. */
        private int takeLeastGroup() {
            int least = 0;
            for (int i = 1; i < groupsLeft; i++) {
                if (comesBefore(groups[i], groups[least])) {
                    least = i;
                }
            }
            int place = groups[least];
            groupsLeft--;
            groups[least] = groups[groupsLeft];
            return place;
        }

        private boolean comesBefore(int p, int q) {
            return weights[p] < weights[q] || weights[p] == weights[q] && p > q;
        }

        /** From the root, the newest node, on down: a parent is always newer than its children. */
        private void measureDepths() {
            depths[nodes - 1] = 0;
            for (int node = nodes - 2; node >= 0; node--) {
                if (node >= PLACES || weights[node] > 0) {
                    depths[node] = depths[parents[node]] + 1;
                }
            }
        }

        private void countLengths() {
            for (int p = 0; p < PLACES; p++) {
                if (depths[p] > 0) {
                    counts[depths[p]]++;
                }
            }
        }

        private void orderSymbols() {
            int ordered = 0;
            int greatest = greatestLength(counts, PLACES - 1);
            for (int n = 1; n <= greatest; n++) {
                for (int s = 0; s < SYMBOLS; s++) {
                    if (depths[s] == n) {
                        symbols[ordered] = s;
                        ordered++;
                    }
                }
            }
        }

        private void shortenLengths() {
            for (int n = greatestLength(counts, PLACES - 1); n > LONGEST_WORD; n--) {
                // Each step takes two words of n bits, and there are no more words than places.
                for (int step = 0; step < PLACES && counts[n] > 0; step++) {
                    int shorter = greatestLength(counts, n - 2);
                    counts[n] -= 2;
                    counts[n - 1]++;
                    counts[shorter + 1] += 2;
                    counts[shorter]--;
                }
            }
        }

        private void dropLongestWord() {
            counts[greatestLength(counts, LONGEST_WORD)]--;
        }
    }

    /** Bits, packed, since a new object of 65536 elements would be dear. */
    private static final class BitRow {
        private final int[] cells = new int[ROW_BITS / CELL_BITS];
        int size;
        int place;

        boolean hasRoom(int n) {
            return n <= ROW_BITS - size;
        }

        int left() {
            return size - place;
        }

        /** The lowest n bits of v, the highest first; the caller has seen that there is room. */
        void append(int v, int n) {
            for (int i = n - 1; i >= 0; i--) {
                int cell = size / CELL_BITS;
                int mask = 1 << size % CELL_BITS;
                // A bit that a cut left behind may stand here.
                cells[cell] = (v >> i & 1) == 1 ? cells[cell] | mask : cells[cell] & ~mask;
                size++;
            }
        }

        /** The n bits from the place on as a number; the caller has seen that they are there. */
        int ahead(int n) {
            int value = 0;
            for (int i = place; i < place + n; i++) {
                value = 2 * value + (cells[i / CELL_BITS] >>> i % CELL_BITS & 1);
            }
            return value;
        }
    }
}
