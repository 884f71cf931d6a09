import java.util.Arrays;

/** The boundary cases of the Terms: texts, rates, the 23 words and their bits; and 512 calls. */
public final class ImageBoundaryTest {
    private static final Answers ANSWERS = new Answers("ImageBoundaryTest");

    private ImageBoundaryTest() {
    }

    public static void main(String[] args) {
        textOfAnyLength();
        textTooLong();
        textWithTheLeastAndTheGreatestCode();
        textWithCodesTooSmall();
        textWithCodesTooLarge();
        textWithAnEndWithin();
        suffixThatBeginsAnother();
        suffixesOfTheLeastCode();
        beforeOfPlaceZero();
        rateOfAnySize();
        rateTooSmall();
        rateTooLarge();
        rateBeyondTheText();
        headThatWrapsAround();
        headOfAnotherLength();
        unnamedBitsAreZeroWhenBuilt();
        unnamedBitsAreRefused();
        namedBitsReachTheirLast();
        levelsOfRowZeroAndRowSixty();
        tenNumbersFillAWord();
        sixtyOneNumbersFillSevenWords();
        lastPlaceThatIsAMultiple();
        lastPlaceThatIsNone();
        deskHasWordsZeroToTwentyTwo();
        lastOf512Calls();
        ANSWERS.end();
    }

    private static SelfIndexImage built(String text, int rate) {
        return new Twins().write(text).build(rate).x;
    }

    private static void dueImage(String what, long[] words) {
        ANSWERS.due("load of " + what, new Twins().putAll(words).x.load(), true);
    }

    /** Words that are no image leave a text that is loaded, and all else, as it is. */
    private static void dueNoImage(String what, long[] words) {
        Twins twins = new Twins().write("banana").build(2).load().ask("an").write("s");
        twins.putAll(words);
        ANSWERS.due("load of " + what, twins.x.load(), false);
        twins.dueSame(ANSWERS, "after a load of " + what);
    }

    private static String textOf(int n) {
        return "the quick brown fox jumps over the lazy dog while we look on".substring(0, n);
    }

    /** "A TEXT has 0 to 60 characters". */
    private static void textOfAnyLength() {
        for (int n = 0; n <= 60; n++) {
            Twins twins = new Twins().write(textOf(n)).build(1 + n % 16);
            twins.house.load();
            ANSWERS.due("load of " + n + " characters", twins.x.load(), true);
            twins.dueSame(ANSWERS, "text of " + n + " characters");
        }
    }

    /** "A TEXT has 0 to 60 characters": up to 63 have room in 64 bits, but are none. */
    private static void textTooLong() {
        for (int n = 61; n <= 63; n++) {
            for (int rate : new int[] {1, 7, 16}) {
                dueNoImage(n + " alike at " + rate, NaiveImage.of("a".repeat(n), rate));
                String mixed = "abcdefgh".repeat(8).substring(0, n);
                dueNoImage(n + " mixed at " + rate, NaiveImage.of(mixed, rate));
            }
        }
    }

    /** "with codes 32 .. 126". */
    private static void textWithTheLeastAndTheGreatestCode() {
        for (String text : new String[] {" ", "~", " ~", "~ ", " a~", "~".repeat(60)}) {
            dueImage("<" + text + ">", NaiveImage.of(text, 1));
        }
    }

    /** "with codes 32 .. 126", below. */
    private static void textWithCodesTooSmall() {
        for (int code = 1; code <= 31; code++) {
            dueNoTextWith(code);
        }
    }

    /** "with codes 32 .. 126", above: of these only 127 has seven bits. */
    private static void textWithCodesTooLarge() {
        dueNoTextWith(127);
    }

    private static void dueNoTextWith(int code) {
        for (String like : new String[] {"?", "?ab", "a?b", "ab?", "??", "a".repeat(59) + "?"}) {
            String text = like.replace('?', (char) code);
            dueNoImage(like + " with " + code, NaiveImage.of(text, 3));
        }
    }

    /** "Behind its n characters stands the END": there is one END, and it stands nowhere else. */
    private static void textWithAnEndWithin() {
        for (String text : new String[] {"\0", "\0\0", "a\0", "\0a", "a\0b", "ab\0ab"}) {
            dueNoImage("an END within " + text.length(), NaiveImage.of(text, 1));
        }
        // No row has the END before it.
        long[] words = NaiveImage.of("aa", 1);
        words[1] = 7;
        words[2] = 7;
        words[7] = 7;
        dueNoImage("no END", words);
    }

    /** "compared by the first character in which they differ": the END is one, and the smallest. */
    private static void suffixThatBeginsAnother() {
        SelfIndexImage x = new Twins().write("a a").build(1).load().x;
        // END, " a", "a", "a a".
        int[] places = {3, 1, 2, 0};
        for (int r = 0; r <= 3; r++) {
            ANSWERS.due("placeOf " + r + " of <a a>", x.placeOf(r), places[r]);
        }
    }

    /** The END is smaller than a blank too. */
    private static void suffixesOfTheLeastCode() {
        SelfIndexImage x = new Twins().write(" ".repeat(60)).build(1).load().x;
        for (int r = 0; r <= 60; r++) {
            ANSWERS.due("placeOf " + r + " of blanks", x.placeOf(r), 60 - r);
        }
    }

    /** "and 0 for place 0". */
    private static void beforeOfPlaceZero() {
        // Rows of "~~": places 2, 1, 0; BEFOREs 126, 126, 0; then the END comes first.
        SelfIndexImage x = built("~~", 1);
        ANSWERS.due("word 1", x.word(1), 3);
        for (int k = 2; k <= 6; k++) {
            ANSWERS.due("word " + k, x.word(k), 6);
        }
        ANSWERS.due("word 7", x.word(7), 0);
    }

    /** "a RATE s (1 .. 16)". */
    private static void rateOfAnySize() {
        for (int rate = 1; rate <= 16; rate++) {
            for (String text : new String[] {"", "a", textOf(16), textOf(60)}) {
                dueImage(text.length() + " at " + rate, NaiveImage.of(text, rate));
            }
        }
    }

    /** "a RATE s (1 .. 16)", below: with the marks of rate 1, of rate 16, or of place 0 alone. */
    private static void rateTooSmall() {
        for (String text : new String[] {"", "a", textOf(60)}) {
            for (int marksOf : new int[] {1, 16, 100}) {
                for (int rate : new int[] {0, -1, -16, -256}) {
                    long[] words = NaiveImage.of(text, marksOf);
                    words[0] = text.length() + 256L * rate;
                    dueNoImage(text.length() + " at " + rate, words);
                }
            }
        }
    }

    /** "a RATE s (1 .. 16)", above: drawn by the rules, but for the rate. */
    private static void rateTooLarge() {
        for (String text : new String[] {"", "a", textOf(17), textOf(60)}) {
            for (int rate : new int[] {17, 18, 31, 32, 60, 61, 255, 256, 257, 1 << 20}) {
                dueNoImage(text.length() + " at " + rate, NaiveImage.of(text, rate));
            }
        }
    }

    /** With a rate above n, place 0 is the only multiple. */
    private static void rateBeyondTheText() {
        for (int n = 0; n <= 15; n++) {
            SelfIndexImage x = built("a".repeat(n), n + 1);
            ANSWERS.due("marks of " + n + " at " + (n + 1), x.word(8), 1L << n);
            ANSWERS.due("places of " + n + " at " + (n + 1), x.word(9), 0);
            ANSWERS.due("rows of " + n + " at " + (n + 1), x.word(16), n);
        }
    }

    /** "Word 0 is n + 256 * s", the whole long, not its lowest bits. */
    private static void headThatWrapsAround() {
        for (String text : new String[] {"", "banana", textOf(60)}) {
            for (int rate : new int[] {1, 16}) {
                long head = text.length() + 256L * rate;
                for (int b = 13; b < 64; b++) {
                    dueNoHead(text, rate, head + (1L << b));
                }
                for (long wrong : new long[] {-head, ~head, head - 65536, head - (1L << 32)}) {
                    dueNoHead(text, rate, wrong);
                }
            }
        }
    }

    private static void dueNoHead(String text, int rate, long head) {
        long[] words = NaiveImage.of(text, rate);
        words[0] = head;
        dueNoImage(text.length() + " at " + rate + " with head " + head, words);
    }

    /** "Word 0 is n + 256 * s": any other n from 0 to 255 is wrong. */
    private static void headOfAnotherLength() {
        for (String text : new String[] {"", "b", "banana", textOf(60)}) {
            for (int n = 0; n <= 255; n++) {
                if (n != text.length()) {
                    dueNoHead(text, 2, n + 512);
                }
            }
        }
    }

    private static boolean isNamed(int n, int rate, int k, int b) {
        if (k == 0) {
            return true;
        }
        if (k <= 8) {
            return b <= n;
        }
        int number = (k <= 15 ? k - 9 : k - 16) * 10 + b / 6;
        return b < 60 && number * rate <= n;
    }

    /** "All bits that are not named here are 0", whatever was on the desk. */
    private static void unnamedBitsAreZeroWhenBuilt() {
        long[] ones = new long[NaiveImage.WORDS];
        Arrays.fill(ones, -1);
        for (int n : new int[] {0, 1, 8, 9, 10, 19, 20, 59, 60}) {
            for (int rate = 1; rate <= 16; rate++) {
                SelfIndexImage x = new Twins().putAll(ones).write(textOf(n)).build(rate).x;
                for (int k = 0; k < NaiveImage.WORDS; k++) {
                    long word = x.word(k);
                    for (int b = 0; b < 64; b++) {
                        boolean isSet = (word >>> b & 1) != 0;
                        boolean isRight = !isSet || isNamed(n, rate, k, b);
                        ANSWERS.due("bit " + b + " of word " + k + ", " + n + " at " + rate,
                                isRight, true);
                    }
                }
            }
        }
    }

    /** "All bits that are not named here are 0": with one that is not, the words are no image. */
    private static void unnamedBitsAreRefused() {
        for (int n : new int[] {0, 1, 9, 10, 59, 60}) {
            for (int rate : new int[] {1, 6, 16}) {
                for (int k = 1; k < NaiveImage.WORDS; k++) {
                    for (int b = 0; b < 64; b++) {
                        if (!isNamed(n, rate, k, b)) {
                            dueNoImageWith(n, rate, k, b);
                        }
                    }
                }
            }
        }
    }

    private static void dueNoImageWith(int n, int rate, int k, int b) {
        long[] words = NaiveImage.of(textOf(n), rate);
        words[k] |= 1L << b;
        String what = n + " at " + rate + " with bit " + b + " of word " + k;
        SelfIndexImage x = new Twins().putAll(words).x;
        ANSWERS.due("load of " + what, x.load(), false);
        ANSWERS.due("length after a load of " + what, x.length(), -1);
        ANSWERS.due("word after a load of " + what, x.word(k), words[k]);
        // The whole state for the bits next to the named ones and for the highest.
        if (b == 63 || b == 60 || b == n + 1) {
            dueNoImage(what, words);
        }
    }

    /** "in its bits 0 .. n": bit n is the last, and 60 the greatest of all. */
    private static void namedBitsReachTheirLast() {
        for (int n : new int[] {0, 1, 31, 32, 59, 60}) {
            SelfIndexImage x = built("a".repeat(n), 1);
            // Row n is place 0, with the END before it; it comes first for the further words.
            ANSWERS.due("word 1 of " + n, x.word(1), (1L << n) - 1);
            ANSWERS.due("word 2 of " + n, x.word(2), (1L << n + 1) - 2);
            ANSWERS.due("word 3 of " + n, x.word(3), 0);
            ANSWERS.due("word 7 of " + n, x.word(7), (1L << n + 1) - 2);
            ANSWERS.due("word 8 of " + n, x.word(8), (1L << n + 1) - 1);
        }
    }

    /** The levels when the first and the last row have other codes before them than the rest. */
    private static void levelsOfRowZeroAndRowSixty() {
        // Places: 60, 59, then 58, 57, .. 0, as "@ " is smaller than "@@ ". Row 0 has the blank
        // before it, row 60 the END, and all between an '@'.
        SelfIndexImage x = built("@".repeat(59) + " ", 16);
        ANSWERS.due("word 1", x.word(1), ((1L << 61) - 1) ^ 1 ^ (1L << 60));
        ANSWERS.due("word 2", x.word(2), 1);
        ANSWERS.due("word 3", x.word(3), 0);
    }

    /** "six bits each, ten to a word": numbers 9 and 10 stand in two words. */
    private static void tenNumbersFillAWord() {
        for (int rate = 1; rate <= 6; rate++) {
            // Row r is place n - r, so the marked rows have the places n, n - rate, .. 0.
            SelfIndexImage ten = built("a".repeat(9 * rate), rate);
            SelfIndexImage eleven = built("a".repeat(10 * rate), rate);
            dueNumbers("ten at " + rate, ten, 9, 10, 9, -1);
            dueNumbers("ten at " + rate, ten, 16, 10, 9 * rate, -rate);
            dueNumbers("eleven at " + rate, eleven, 9, 11, 10, -1);
            dueNumbers("eleven at " + rate, eleven, 16, 11, 10 * rate, -rate);
        }
    }

    private static void dueNumbers(String what, SelfIndexImage x, int firstWord, int count,
            int first, int step) {
        for (int k = 0; k < 7; k++) {
            long word = 0;
            for (int i = 9; i >= 0; i--) {
                int number = 10 * k + i;
                word = word << 6 | (number < count ? first + (long) step * number : 0);
            }
            ANSWERS.due(what + ": word " + (firstWord + k), x.word(firstWord + k), word);
        }
    }

    /** Words 9 .. 15 and 16 .. 22 at rate 1: number 60 is alone in the last. */
    private static void sixtyOneNumbersFillSevenWords() {
        SelfIndexImage x = built("a".repeat(60), 1);
        dueNumbers("61 falling", x, 9, 61, 60, -1);
        dueNumbers("61 falling", x, 16, 61, 60, -1);
        StringBuilder growing = new StringBuilder();
        for (int code = 33; code <= 92; code++) {
            growing.append((char) code);
        }
        // Row 0 is place 60; else row r is place r - 1.
        SelfIndexImage y = built(growing.toString(), 1);
        ANSWERS.due("word 9", y.word(9) & 4095, 60);
        ANSWERS.due("word 15", y.word(15), 59);
        ANSWERS.due("word 16", y.word(16) & 4095, 1 | 2 << 6);
        ANSWERS.due("word 22", y.word(22), 0);
    }

    /** "with q * s at most n": n itself may be the last. */
    private static void lastPlaceThatIsAMultiple() {
        for (int rate = 1; rate <= 16; rate++) {
            SelfIndexImage x = built("b".repeat(rate), rate);
            // Place n is row 0, place 0 is row n.
            ANSWERS.due("marks, n = s = " + rate, x.word(8), 1L << rate | 1);
            ANSWERS.due("places, n = s = " + rate, x.word(9), 1);
            ANSWERS.due("rows, n = s = " + rate, x.word(16), rate);
            // The row of the END is 0 and leaves no bit; that of the place before it does.
            SelfIndexImage y = built("b".repeat(rate) + "a", rate);
            long ofPlaceZero = rate + 1;
            ANSWERS.due("rows, n = s + 1 = " + (rate + 1), y.word(16), ofPlaceZero | 1 << 6);
        }
    }

    /** "with q * s at most n": one more would be too many. */
    private static void lastPlaceThatIsNone() {
        for (int rate = 2; rate <= 16; rate++) {
            SelfIndexImage x = built("b".repeat(2 * rate - 1), rate);
            // Places 0 and s alone; s is row s - 1.
            ANSWERS.due("marks, n = 2 s - 1, s = " + rate, x.word(8),
                    1L << rate - 1 | 1L << 2 * rate - 1);
            ANSWERS.due("places, n = 2 s - 1, s = " + rate, x.word(9), 1);
            ANSWERS.due("rows, n = 2 s - 1, s = " + rate, x.word(16),
                    2 * rate - 1 | (long) (rate - 1) << 6);
        }
    }

    /** "a row of 23 longs, WORDS 0 .. 22". */
    private static void deskHasWordsZeroToTwentyTwo() {
        SelfIndexImage x = new SelfIndexImage();
        for (int k = -2; k <= 64; k++) {
            boolean isWord = k >= 0 && k <= 22;
            ANSWERS.due("put " + k, x.put(k, 5), isWord);
            ANSWERS.due("flip " + k, x.flip(k, 1), isWord);
            ANSWERS.due("word " + k, x.word(k), isWord ? 7 : 0);
        }
    }

    /** "An object is used for at most 512 calls": the last of them answers like the others. */
    private static void lastOf512Calls() {
        Twins twins = new Twins().write(textOf(60)).build(16).load().ask("o");
        for (int calls = 60 + 3; calls < 512 - 20; calls++) {
            ANSWERS.due("load", twins.x.load(), true);
        }
        ANSWERS.due("write, late", twins.x.write('a'), false);
        ANSWERS.due("build, late", twins.x.build(17), false);
        ANSWERS.due("word, late", twins.x.word(0), 60 + 4096);
        ANSWERS.due("put, late", twins.x.put(22, 1), true);
        ANSWERS.due("load, late", twins.x.load(), false);
        ANSWERS.due("flip, late", twins.x.flip(22, 0), true);
        ANSWERS.due("load, late", twins.x.load(), true);
        ANSWERS.due("length, late", twins.x.length(), 60);
        ANSWERS.due("rate, late", twins.x.rate(), 16);
        ANSWERS.due("charAt, late", twins.x.charAt(59), 'n');
        ANSWERS.due("rowOf, late", twins.x.rowOf(60), 0);
        ANSWERS.due("placeOf, late", twins.x.placeOf(0), 60);
        ANSWERS.due("count, late", twins.x.count(), twins.house.count());
        ANSWERS.due("firstRow, late", twins.x.firstRow(), twins.house.firstRow());
        ANSWERS.due("locate, late", twins.x.locate(0), 12);
        ANSWERS.due("variety, late", twins.x.variety(), twins.house.variety());
        ANSWERS.due("ask, late", twins.x.ask('n'), true);
        ANSWERS.due("count, late", twins.x.count(), 1);
        ANSWERS.due("back, late", twins.x.back(), true);
        ANSWERS.due("back, the last call", twins.x.back(), true);
    }
}
