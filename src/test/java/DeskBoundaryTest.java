/** The boundary cases of the promises 5 to 8: word, put, flip and load. */
public final class DeskBoundaryTest {
    private static final Answers ANSWERS = new Answers("DeskBoundaryTest");
    private static final int[] WORDS_TOO_SMALL = {-1, -2, -23, Integer.MIN_VALUE};
    private static final int[] WORDS_TOO_LARGE = {23, 24, 64, 256, 65536, Integer.MAX_VALUE};
    // Java shifts by the lowest six bits alone, so that 64 would be 0 again, and -1 would be 63.
    private static final int[] BITS_TOO_SMALL = {-1, -2, -64, -65, Integer.MIN_VALUE};
    private static final int[] BITS_TOO_LARGE = {64, 65, 127, 128, Integer.MAX_VALUE};

    private DeskBoundaryTest() {
    }

    public static void main(String[] args) {
        wordOfTheFirstAndTheLast();
        wordIsZeroWhenTooSmall();
        wordIsZeroWhenTooLarge();
        putTakesTheFirstAndTheLastWord();
        putTakesEveryLong();
        putRefusesWordsTooSmall();
        putRefusesWordsTooLarge();
        flipTakesTheCorners();
        flipTwiceIsNoChange();
        flipRefusesWordsTooSmall();
        flipRefusesWordsTooLarge();
        flipRefusesBitsTooSmall();
        flipRefusesBitsTooLarge();
        flipRefusesWhatIsWrongTwice();
        loadRefusesWordsThatAreAllZero();
        loadRefusesWhatIsNoImage();
        loadTakesTheEmptyText();
        loadTakesAFullText();
        loadPutsATextInPlaceOfAnEarlierOne();
        loadOfTheSameAgain();
        loadChangesNothingElse();
        loadedTextOutlivesItsDesk();
        ANSWERS.end();
    }

    private static Twins fullOfNumbers() {
        Twins twins = new Twins();
        for (int k = 0; k < NaiveImage.WORDS; k++) {
            twins.put(k, -1L - k);
        }
        return twins;
    }

    /** Promise 5: "Word k of the desk", for the least and the greatest k. */
    private static void wordOfTheFirstAndTheLast() {
        SelfIndexImage x = fullOfNumbers().x;
        ANSWERS.due("word 0", x.word(0), -1);
        ANSWERS.due("word 22", x.word(22), -23);
    }

    /** Promise 5: "0 when k is not 0 .. 22", below. */
    private static void wordIsZeroWhenTooSmall() {
        for (int k : WORDS_TOO_SMALL) {
            dueNoWord(k);
        }
    }

    /** Promise 5: "0 when k is not 0 .. 22", above. */
    private static void wordIsZeroWhenTooLarge() {
        for (int k : WORDS_TOO_LARGE) {
            dueNoWord(k);
        }
    }

    private static void dueNoWord(int k) {
        Twins twins = fullOfNumbers();
        ANSWERS.due("word " + k, twins.x.word(k), 0);
        twins.dueSame(ANSWERS, "after word " + k);
    }

    /** Promise 6: "Refused (false) when k is not 0 .. 22": these two are. */
    private static void putTakesTheFirstAndTheLastWord() {
        for (Situation situation : Situation.values()) {
            for (int k : new int[] {0, 22}) {
                Twins twins = situation.make();
                twins.house.put(k, 1234567890123L);
                ANSWERS.due("put " + k, twins.x.put(k, 1234567890123L), true);
                twins.dueSame(ANSWERS, "after put " + k + " (" + situation + ")");
            }
        }
    }

    /** Promise 6: "Word k of the desk becomes v", any v. */
    private static void putTakesEveryLong() {
        long[] values = {0, 1, -1, Integer.MAX_VALUE, 1L << 31, 1L << 32, Long.MAX_VALUE,
            Long.MIN_VALUE};
        SelfIndexImage x = new SelfIndexImage();
        for (int k = 0; k < NaiveImage.WORDS; k++) {
            for (long v : values) {
                ANSWERS.due("put " + k + " " + v, x.put(k, v), true);
                ANSWERS.due("word " + k, x.word(k), v);
            }
        }
    }

    /** Promise 6: "Refused (false) when k is not 0 .. 22", below. */
    private static void putRefusesWordsTooSmall() {
        for (int k : WORDS_TOO_SMALL) {
            Situation.dueRefusedInAll(ANSWERS, "put " + k, x -> x.put(k, 77));
        }
    }

    /** Promise 6: "Refused (false) when k is not 0 .. 22", above. */
    private static void putRefusesWordsTooLarge() {
        for (int k : WORDS_TOO_LARGE) {
            Situation.dueRefusedInAll(ANSWERS, "put " + k, x -> x.put(k, 77));
        }
    }

    /** Promise 7: "Refused (false) when k is not 0 .. 22 or b not 0 .. 63": these are. */
    private static void flipTakesTheCorners() {
        for (Situation situation : Situation.values()) {
            for (int k : new int[] {0, 22}) {
                for (int b : new int[] {0, 31, 32, 63}) {
                    Twins twins = situation.make();
                    String call = "flip " + k + " " + b;
                    twins.house.put(k, twins.house.word(k) ^ (1L << b));
                    ANSWERS.due(call, twins.x.flip(k, b), true);
                    twins.dueSame(ANSWERS, "after " + call + " (" + situation + ")");
                }
            }
        }
    }

    /** Promise 7: a bit that is "turned round" twice is as it was. */
    private static void flipTwiceIsNoChange() {
        Twins twins = Situation.ORDINARY.make();
        for (int b : new int[] {0, 31, 32, 63}) {
            ANSWERS.due("flip 22 " + b, twins.x.flip(22, b), true);
            ANSWERS.due("flip 22 " + b + " again", twins.x.flip(22, b), true);
        }
        twins.dueSame(ANSWERS, "after flips there and back");
    }

    /** Promise 7: "Refused (false) when k is not 0 .. 22", below. */
    private static void flipRefusesWordsTooSmall() {
        for (int k : WORDS_TOO_SMALL) {
            Situation.dueRefusedInAll(ANSWERS, "flip of word " + k,
                    x -> x.flip(k, 0) || x.flip(k, 63));
        }
    }

    /** Promise 7: "Refused (false) when k is not 0 .. 22", above. */
    private static void flipRefusesWordsTooLarge() {
        for (int k : WORDS_TOO_LARGE) {
            Situation.dueRefusedInAll(ANSWERS, "flip of word " + k,
                    x -> x.flip(k, 0) || x.flip(k, 63));
        }
    }

    /** Promise 7: "Refused (false) when .. b not 0 .. 63", below. */
    private static void flipRefusesBitsTooSmall() {
        for (int b : BITS_TOO_SMALL) {
            Situation.dueRefusedInAll(ANSWERS, "flip of bit " + b,
                    x -> x.flip(0, b) || x.flip(22, b));
        }
    }

    /** Promise 7: "Refused (false) when .. b not 0 .. 63", above. */
    private static void flipRefusesBitsTooLarge() {
        for (int b : BITS_TOO_LARGE) {
            Situation.dueRefusedInAll(ANSWERS, "flip of bit " + b,
                    x -> x.flip(0, b) || x.flip(22, b));
        }
    }

    /** Promise 7: neither k nor b is right. */
    private static void flipRefusesWhatIsWrongTwice() {
        for (int k : new int[] {-1, 23}) {
            for (int b : new int[] {-1, 64}) {
                Situation.dueRefusedInAll(ANSWERS, "flip " + k + " " + b, x -> x.flip(k, b));
            }
        }
    }

    /** Promise 8: words that are all 0 would have the rate 0. */
    private static void loadRefusesWordsThatAreAllZero() {
        Situation.NEW.dueRefused(ANSWERS, "load", SelfIndexImage::load);
        Twins twins = Situation.ORDINARY.make().putAll(new long[NaiveImage.WORDS]);
        ANSWERS.due("load of all 0", twins.x.load(), false);
        twins.dueSame(ANSWERS, "after a load of all 0");
    }

    /** Promise 8: "otherwise nothing changes". */
    private static void loadRefusesWhatIsNoImage() {
        for (Situation situation : new Situation[] {Situation.ORDINARY, Situation.FULL}) {
            situation.dueRefused(ANSWERS, "load", SelfIndexImage::load);
            situation.dueRefused(ANSWERS, "load, twice", x -> x.load() || x.load());
        }
        // The image of another text than the loaded one, but for bit 0 of a word; in the levels
        // there is then no END, or one before row 0.
        for (int k = 0; k < NaiveImage.WORDS; k++) {
            Twins twins = new Twins().write("loaded").build(5).load().ask("d")
                    .erase().write("abracadabra").build(1);
            twins.put(k, twins.house.word(k) ^ 1);
            ANSWERS.due("load with word " + k + " amiss", twins.x.load(), false);
            twins.dueSame(ANSWERS, "after a load with word " + k + " amiss");
        }
    }

    /** Promise 8: a text may have 0 characters. */
    private static void loadTakesTheEmptyText() {
        for (int rate = 1; rate <= 16; rate++) {
            dueLoaded("", rate);
        }
    }

    /** Promise 8: a text may have 60 characters. */
    private static void loadTakesAFullText() {
        for (int rate = 1; rate <= 16; rate++) {
            dueLoaded(" ".repeat(60), rate);
            dueLoaded("~".repeat(60), rate);
            dueLoaded("there are sixty characters in this line, if one counts them.", rate);
        }
    }

    private static void dueLoaded(String text, int rate) {
        SelfIndexImage x = new Twins().putAll(NaiveImage.of(text, rate)).x;
        String what = " of " + text.length() + " characters at " + rate;
        ANSWERS.due("load" + what, x.load(), true);
        ANSWERS.due("length" + what, x.length(), text.length());
        ANSWERS.due("rate" + what, x.rate(), rate);
        for (int p = 0; p < text.length(); p++) {
            ANSWERS.due("charAt " + p + what, x.charAt(p), text.charAt(p));
        }
    }

    /** Promise 8: "this text is loaded, in place of an earlier one", a longer or a shorter one. */
    private static void loadPutsATextInPlaceOfAnEarlierOne() {
        String[] texts = {"", "a", "banana", "ab".repeat(30)};
        for (String earlier : texts) {
            for (String later : texts) {
                Twins twins = new Twins().write(earlier).build(2).load()
                        .erase().write(later).build(16);
                twins.house.load();
                ANSWERS.due("load", twins.x.load(), true);
                twins.dueSame(ANSWERS, "<" + later + "> in place of <" + earlier + ">");
            }
        }
    }

    /** Promise 8: the words of the desk are still the image when they have been loaded. */
    private static void loadOfTheSameAgain() {
        Twins twins = Situation.READY.make();
        twins.house.load();
        for (int i = 0; i < 3; i++) {
            ANSWERS.due("load number " + i, twins.x.load(), true);
        }
        twins.dueSame(ANSWERS, "after three loads");
    }

    /** Promise 8 tells of the loaded text alone. */
    private static void loadChangesNothingElse() {
        for (Situation situation : Situation.values()) {
            situation.make().load().dueSame(ANSWERS, "load (" + situation + ")");
        }
    }

    /** A loaded text is another thing than the desk: neither build nor put nor flip touches it. */
    private static void loadedTextOutlivesItsDesk() {
        Twins twins = Situation.READY.make().load();
        twins.erase().write("xyz").build(4);
        twins.dueSeen(ANSWERS, "loaded, then built over");
        twins.putAll(new long[NaiveImage.WORDS]);
        twins.dueSame(ANSWERS, "loaded, then cleared");
    }
}
