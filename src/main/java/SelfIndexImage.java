/**
 * Makes of a text an image of a few numbers from which the text, and every place of every pattern
 * in it, can be told again without the text; and tells whether such numbers are the image of any
 * text.
 */
public final class SelfIndexImage {
    public static final int NONE = -1;

    private static final int MOST_CHARACTERS = 60;
    private static final int MOST_ASKED = 20;
    private static final int MOST_ROWS = MOST_CHARACTERS + 1;
    private static final int END = 0;
    private static final int LEAST_CODE = 32;
    private static final int GREATEST_CODE = 126;
    private static final int LEAST_RATE = 1;
    private static final int GREATEST_RATE = 16;

    private static final int WORDS = 23;
    private static final int BITS = 64;
    private static final int HEAD = 0;
    private static final int RATE_UNIT = 256;
    private static final int FIRST_LEVEL = 1;
    private static final int LEVELS = 7;
    private static final int MARKS = 8;
    private static final int FIRST_OF_PLACES = 9;
    private static final int FIRST_OF_ROWS = 16;
    private static final int NUMBER_BITS = 6;
    private static final int NUMBERS_IN_WORD = 10;

    private final Line written;
    private final Line pattern;
    private final Image desk;
    private final Image redrawn;
    private final Befores befores;
    private Reading loaded;
    private Reading trial;

    public SelfIndexImage() {
        written = new Line(MOST_CHARACTERS);
        pattern = new Line(MOST_ASKED);
        desk = new Image();
        redrawn = new Image();
        befores = new Befores();
        loaded = new Reading();
        trial = new Reading();
    }

    public boolean write(char c) {
        return written.add(c);
    }

    public void erase() {
        written.clear();
    }

    public boolean build(int rate) {
        if (!isRate(rate)) {
            return false;
        }
        draw(written, rate, desk);
        return true;
    }

    public long word(int k) {
        return isWord(k) ? desk.words[k] : 0;
    }

    public boolean put(int k, long v) {
        if (!isWord(k)) {
            return false;
        }
        desk.words[k] = v;
        return true;
    }

    public boolean flip(int k, int b) {
        if (!isWord(k) || b < 0 || b >= BITS) {
            return false;
        }
        desk.words[k] ^= 1L << b;
        return true;
    }

    public boolean load() {
        if (!readDesk()) {
            return false;
        }
        // The trial holds the only text that could have this image, so drawing it again decides.
        draw(trial.text, trial.rate, redrawn);
        if (!redrawn.isSameAs(desk)) {
            return false;
        }
        Reading earlier = loaded;
        loaded = trial;
        trial = earlier;
        return true;
    }

    public int length() {
        return hasLoaded() ? loaded.text.size : NONE;
    }

    public int rate() {
        return hasLoaded() ? loaded.rate : NONE;
    }

    public int charAt(int p) {
        return isLoadedPlace(p) ? loaded.text.codeAt(p) : NONE;
    }

    public int rowOf(int p) {
        return isLoadedPlace(p) ? loaded.suffixes.rows[p] : NONE;
    }

    public int placeOf(int r) {
        // There are as many rows as places.
        return isLoadedPlace(r) ? loaded.suffixes.places[r] : NONE;
    }

    public boolean ask(char c) {
        return pattern.add(c);
    }

    public boolean back() {
        return pattern.dropLast();
    }

    public int count() {
        if (!hasLoaded()) {
            return NONE;
        }
        int found = 0;
        for (int p = 0; p <= loaded.text.size; p++) {
            if (occursAt(p)) {
                found++;
            }
        }
        return found;
    }

    public int firstRow() {
        if (!hasLoaded()) {
            return NONE;
        }
        for (int r = 0; r <= loaded.text.size; r++) {
            if (occursAt(loaded.suffixes.places[r])) {
                return r;
            }
        }
        return NONE;
    }

    public int locate(int k) {
        if (!hasLoaded() || k < 0) {
            return NONE;
        }
        int found = 0;
        for (int p = 0; p <= loaded.text.size; p++) {
            if (occursAt(p)) {
                if (found == k) {
                    return p;
                }
                found++;
            }
        }
        return NONE;
    }

    public int variety() {
        if (!hasLoaded()) {
            return NONE;
        }
        long lowCodes = 0;
        long highCodes = 0;
        // Nothing but the END stands before place 0, and the END does not count.
        for (int p = 1; p <= loaded.text.size; p++) {
            if (occursAt(p)) {
                int code = loaded.text.codeAt(p - 1);
                if (code < BITS) {
                    lowCodes |= 1L << code;
                } else {
                    highCodes |= 1L << (code - BITS);
                }
            }
        }
        return Long.bitCount(lowCodes) + Long.bitCount(highCodes);
    }

    private static boolean isWord(int k) {
        return k >= 0 && k < WORDS;
    }

    private static boolean isRate(long rate) {
        return rate >= LEAST_RATE && rate <= GREATEST_RATE;
    }

    private boolean hasLoaded() {
        return loaded.rate != NONE;
    }

    private boolean isLoadedPlace(int p) {
        return hasLoaded() && p >= 0 && p <= loaded.text.size;
    }

    private boolean occursAt(int p) {
        return loaded.text.hasAt(pattern, p);
    }

    // The order of the suffixes is left in the trial, where load wants it.
    private void draw(Line text, int rate, Image image) {
        trial.suffixes.sort(text);
        befores.takeFrom(text, trial.suffixes);
        image.draw(befores, trial.suffixes, rate);
    }

    private boolean readDesk() {
        long head = desk.words[HEAD];
        long size = head & (RATE_UNIT - 1);
        long rate = head / RATE_UNIT;
        if (size > MOST_CHARACTERS || !isRate(rate)) {
            return false;
        }
        befores.readLevels(desk, (int) size);
        trial.rate = (int) rate;
        return befores.spell(trial.text);
    }

    /** What has been read from an image; its rate is NONE as long as nothing has. */
    private static final class Reading {
        private final Line text;
        private final Suffixes suffixes;
        private int rate;

        Reading() {
            text = new Line(MOST_CHARACTERS);
            suffixes = new Suffixes();
            rate = NONE;
        }
    }

    /** Characters up to a limit. */
    private static final class Line {
        private final int[] codes;
        private int size;

        Line(int limit) {
            codes = new int[limit];
            size = 0;
        }

        boolean add(int code) {
            if (code < LEAST_CODE || code > GREATEST_CODE || size >= codes.length) {
                return false;
            }
            codes[size] = code;
            size++;
            return true;
        }

        boolean dropLast() {
            if (size == 0) {
                return false;
            }
            size--;
            return true;
        }

        void clear() {
            size = 0;
        }

        /** The END stands behind the last character, and in front of the first one. */
        int codeAt(int p) {
            return p >= 0 && p < size ? codes[p] : END;
        }

        // No part can reach past the last character: the END is in no part.
        boolean hasAt(Line part, int p) {
            for (int i = 0; i < part.size; i++) {
                if (codeAt(p + i) != part.codeAt(i)) {
                    return false;
                }
            }
            return true;
        }
    }

    /** The growing order of the suffixes of a text. */
    private static final class Suffixes {
        private final int[] rows;
        private final int[] places;
        private int last;

        Suffixes() {
            rows = new int[MOST_ROWS];
            places = new int[MOST_ROWS];
            last = 0;
        }

        // From the shortest suffix on, so that two that begin alike are told apart by the
        // rows of what follows, which are known by then.
        void sort(Line text) {
            last = text.size;
            for (int p = last; p >= 0; p--) {
                insert(text, p);
            }
            for (int p = 0; p <= last; p++) {
                places[rows[p]] = p;
            }
        }

        private void insert(Line text, int p) {
            int row = 0;
            for (int q = p + 1; q <= last; q++) {
                if (isSmaller(text, q, p)) {
                    row++;
                }
            }
            for (int q = p + 1; q <= last; q++) {
                if (rows[q] >= row) {
                    rows[q]++;
                }
            }
            rows[p] = row;
        }

        // Equal codes at two places are no END, so both places have one behind them.
        private boolean isSmaller(Line text, int q, int p) {
            int one = text.codeAt(q);
            int other = text.codeAt(p);
            return one == other ? rows[q + 1] < rows[p + 1] : one < other;
        }
    }

    /** The BEFOREs of the rows of a text. */
    private static final class Befores {
        private final int[] codes;
        private final int[] order;
        private final int[] ones;
        private final int[] following;
        private int last;

        Befores() {
            codes = new int[MOST_ROWS];
            order = new int[MOST_ROWS];
            ones = new int[MOST_ROWS];
            following = new int[MOST_ROWS];
            last = 0;
        }

        void takeFrom(Line text, Suffixes suffixes) {
            last = suffixes.last;
            for (int r = 0; r <= last; r++) {
                codes[r] = text.codeAt(suffixes.places[r] - 1);
            }
        }

        void drawLevels(Image image) {
            startOrder();
            for (int j = 0; j < LEVELS; j++) {
                long bits = 0;
                for (int i = 0; i <= last; i++) {
                    long bit = (codes[order[i]] >> (LEVELS - 1 - j)) & 1;
                    bits |= bit << i;
                }
                image.words[FIRST_LEVEL + j] = bits;
                partOrder(bits);
            }
        }

        void readLevels(Image image, int size) {
            last = size;
            startOrder();
            for (int r = 0; r <= last; r++) {
                codes[r] = 0;
            }
            for (int j = 0; j < LEVELS; j++) {
                long bits = image.words[FIRST_LEVEL + j];
                for (int i = 0; i <= last; i++) {
                    int bit = (int) ((bits >>> i) & 1);
                    codes[order[i]] = 2 * codes[order[i]] + bit;
                }
                partOrder(bits);
            }
        }

        /** Spells the only text that can have these BEFOREs; false when a code is no character. */
        boolean spell(Line text) {
            for (int r = 0; r <= last; r++) {
                following[rowBefore(r)] = r;
            }
            text.clear();
            // Row 0 is the END alone; going round, place 0 follows it.
            int row = following[0];
            for (int p = 0; p < last; p++) {
                row = following[row];
                if (!text.add(codes[row])) {
                    return false;
                }
            }
            return true;
        }

        // Rows that begin with the same character stand in the order of what follows it.
        private int rowBefore(int r) {
            int row = 0;
            for (int i = 0; i <= last; i++) {
                if (codes[i] < codes[r] || (codes[i] == codes[r] && i < r)) {
                    row++;
                }
            }
            return row;
        }

        private void startOrder() {
            for (int i = 0; i <= last; i++) {
                order[i] = i;
            }
        }

        private void partOrder(long bits) {
            int zeroCount = 0;
            int oneCount = 0;
            for (int i = 0; i <= last; i++) {
                if (((bits >>> i) & 1) == 0) {
                    order[zeroCount] = order[i];
                    zeroCount++;
                } else {
                    ones[oneCount] = order[i];
                    oneCount++;
                }
            }
            for (int i = 0; i < oneCount; i++) {
                order[zeroCount + i] = ones[i];
            }
        }
    }

    /** The words of an image, or of what may be none. */
    private static final class Image {
        private final long[] words;

        Image() {
            words = new long[WORDS];
        }

        boolean isSameAs(Image other) {
            for (int k = 0; k < WORDS; k++) {
                if (words[k] != other.words[k]) {
                    return false;
                }
            }
            return true;
        }

        void draw(Befores befores, Suffixes suffixes, int rate) {
            for (int k = 0; k < WORDS; k++) {
                words[k] = 0;
            }
            words[HEAD] = suffixes.last + RATE_UNIT * rate;
            befores.drawLevels(this);
            drawMarkedRows(suffixes, rate);
            drawRowsOfPlaces(suffixes, rate);
        }

        private void drawMarkedRows(Suffixes suffixes, int rate) {
            int marked = 0;
            for (int r = 0; r <= suffixes.last; r++) {
                int place = suffixes.places[r];
                if (place % rate == 0) {
                    words[MARKS] |= 1L << r;
                    drawNumber(FIRST_OF_PLACES, marked, place / rate);
                    marked++;
                }
            }
        }

        private void drawRowsOfPlaces(Suffixes suffixes, int rate) {
            int greatest = suffixes.last / rate;
            for (int q = 0; q <= greatest; q++) {
                drawNumber(FIRST_OF_ROWS, q, suffixes.rows[q * rate]);
            }
        }

        private void drawNumber(int firstWord, int i, long number) {
            int shift = NUMBER_BITS * (i % NUMBERS_IN_WORD);
            words[firstWord + i / NUMBERS_IN_WORD] |= number << shift;
        }
    }
}
