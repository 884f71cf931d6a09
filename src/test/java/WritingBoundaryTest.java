import java.util.Arrays;

/** The boundary cases of the promises 1 to 4: a new object, write, erase and build. */
public final class WritingBoundaryTest {
    private static final Answers ANSWERS = new Answers("WritingBoundaryTest");
    private static final String FULL_TEXT = "0123456789".repeat(6);

    private WritingBoundaryTest() {
    }

    public static void main(String[] args) {
        newObjectHasAnEmptyTextBeingWritten();
        newObjectHasAllWordsZero();
        newObjectHasNoTextLoaded();
        newObjectHasAnEmptyPattern();
        newObjectKnowsNothingOfOthers();
        writeTakesTheLeastAndTheGreatestCode();
        writeRefusesCodesTooSmall();
        writeRefusesCodesTooLarge();
        writeTakesNoCodeButThose();
        writeTakesTheSixtiethCharacter();
        writeRefusesTheNextCharacter();
        eraseOfAnEmptyText();
        eraseOfAFullText();
        eraseChangesNothingElse();
        buildTakesTheLeastAndTheGreatestRate();
        buildRefusesRatesTooSmall();
        buildRefusesRatesTooLarge();
        buildOfTheEmptyText();
        buildOfAFullText();
        buildLeavesNothingOfTheDesk();
        buildChangesNothingElse();
        ANSWERS.end();
    }

    private static void dueWords(String what, SelfIndexImage x, long... want) {
        for (int k = 0; k < NaiveImage.WORDS; k++) {
            ANSWERS.due(what + ": word " + k, x.word(k), k < want.length ? want[k] : 0);
        }
    }

    /** Promise 1: "An empty text being written". */
    private static void newObjectHasAnEmptyTextBeingWritten() {
        SelfIndexImage x = new SelfIndexImage();
        ANSWERS.due("build of a new object", x.build(1), true);
        dueWords("built from a new object", x, 256, 0, 0, 0, 0, 0, 0, 0, 1);
        SelfIndexImage y = new SelfIndexImage();
        for (int i = 0; i < 60; i++) {
            ANSWERS.due("room in a new object for " + i, y.write('a'), true);
        }
    }

    /** Promise 1: "all words 0"; of the desk: "at first all 0". */
    private static void newObjectHasAllWordsZero() {
        dueWords("new", new SelfIndexImage());
    }

    /** Promise 1: "no text loaded". */
    private static void newObjectHasNoTextLoaded() {
        SelfIndexImage x = new SelfIndexImage();
        ANSWERS.due("new: length", x.length(), -1);
        ANSWERS.due("new: rate", x.rate(), -1);
        ANSWERS.due("new: charAt 0", x.charAt(0), -1);
        ANSWERS.due("new: rowOf 0", x.rowOf(0), -1);
        ANSWERS.due("new: placeOf 0", x.placeOf(0), -1);
        ANSWERS.due("new: count", x.count(), -1);
        ANSWERS.due("new: firstRow", x.firstRow(), -1);
        ANSWERS.due("new: locate 0", x.locate(0), -1);
        ANSWERS.due("new: variety", x.variety(), -1);
    }

    /** Promise 1: "an empty pattern". */
    private static void newObjectHasAnEmptyPattern() {
        ANSWERS.due("new: back", new SelfIndexImage().back(), false);
        SelfIndexImage x = new SelfIndexImage();
        for (int i = 0; i < 20; i++) {
            ANSWERS.due("new: room in the pattern for " + i, x.ask('a'), true);
        }
        SelfIndexImage y = new Twins().write("ab").build(1).load().x;
        ANSWERS.due("count of a pattern never asked", y.count(), 3);
    }

    /** Promise 1 holds for every new object, whatever others hold. */
    private static void newObjectKnowsNothingOfOthers() {
        Twins old = Situation.FULL.make();
        Situation.NEW.make().dueSame(ANSWERS, "new beside a full one");
        old.dueSame(ANSWERS, "full beside a new one");
    }

    /** Promise 2: "Refused (false) when its code is not 32 .. 126": these two are not. */
    private static void writeTakesTheLeastAndTheGreatestCode() {
        SelfIndexImage x = new SelfIndexImage();
        ANSWERS.due("write 32", x.write((char) 32), true);
        ANSWERS.due("write 126", x.write((char) 126), true);
        x.build(1);
        // Rows: the END, " ~", "~"; their BEFOREs: 126, the END, 32.
        dueWords("written", x, 258, 1, 6, 4, 4, 4, 4, 0, 7, 2 | 1 << 12, 0, 0, 0, 0, 0, 0,
                1 | 2 << 6);
    }

    /** Promise 2: "Refused (false) when its code is not 32 .. 126", below. */
    private static void writeRefusesCodesTooSmall() {
        for (int code : new int[] {0, 1, 31}) {
            Situation.dueRefusedInAll(ANSWERS, "write " + code, x -> x.write((char) code));
        }
    }

    /** Promise 2: "Refused (false) when its code is not 32 .. 126", above. */
    private static void writeRefusesCodesTooLarge() {
        // 256 + 97 and 65536 - 159 would be an 'a' in eight bits.
        for (int code : new int[] {127, 128, 255, 256, 256 + 97, 32768, 65536 - 159, 65535}) {
            Situation.dueRefusedInAll(ANSWERS, "write " + code, x -> x.write((char) code));
        }
    }

    /** Promise 2: every single code. */
    private static void writeTakesNoCodeButThose() {
        SelfIndexImage x = new SelfIndexImage();
        for (int code = 0; code <= 65535; code++) {
            if (code % 256 == 0) {
                x = new SelfIndexImage();
            }
            x.erase();
            ANSWERS.due("write " + code, x.write((char) code), code >= 32 && code <= 126);
        }
    }

    /** Promise 2: "or it has 60"; "A TEXT has 0 to 60 characters". */
    private static void writeTakesTheSixtiethCharacter() {
        SelfIndexImage x = new SelfIndexImage();
        for (int i = 1; i <= 60; i++) {
            ANSWERS.due("write number " + i, x.write('a'), true);
        }
        x.build(1);
        ANSWERS.due("word 0 of 60 characters", x.word(0), 60 + 256);
    }

    /** Promise 2: "Refused (false) when .. it has 60". */
    private static void writeRefusesTheNextCharacter() {
        for (char c : new char[] {' ', 'a', '~', 0, 127}) {
            Situation.FULL.dueRefused(ANSWERS, "write " + (int) c, x -> x.write(c));
        }
        Situation.FULL.dueRefused(ANSWERS, "write twice", x -> x.write('a') || x.write('b'));
    }

    /** Promise 3: "The text being written is empty again", when it is so already. */
    private static void eraseOfAnEmptyText() {
        Twins twins = Situation.NEW.make();
        twins.x.erase();
        twins.dueSame(ANSWERS, "erase of a new object");
        Twins again = Situation.ORDINARY.make().erase();
        again.x.erase();
        again.dueSame(ANSWERS, "erase, twice");
    }

    /** Promise 3: "The text being written is empty again", and has room for 60 again. */
    private static void eraseOfAFullText() {
        SelfIndexImage x = new Twins().write("z".repeat(60)).x;
        x.erase();
        x.build(1);
        dueWords("erased", x, 256, 0, 0, 0, 0, 0, 0, 0, 1);
        for (int i = 0; i < 60; i++) {
            ANSWERS.due("write after erase " + i, x.write(FULL_TEXT.charAt(i)), true);
        }
        ANSWERS.due("write number 61 after erase", x.write('a'), false);
        x.build(4);
        dueWords("written after erase", x, NaiveImage.of(FULL_TEXT, 4));
    }

    /** Promise 3 tells of the text being written alone. */
    private static void eraseChangesNothingElse() {
        for (Situation situation : Situation.values()) {
            situation.make().erase().dueSame(ANSWERS, "erase (" + situation + ")");
        }
    }

    /** Promise 4: "Refused (false) when rate is not 1 .. 16": these two are. */
    private static void buildTakesTheLeastAndTheGreatestRate() {
        SelfIndexImage x = new Twins().write("ab").x;
        ANSWERS.due("build 1", x.build(1), true);
        // Rows: places 2, 0, 1; their BEFOREs: b, the END, a.
        dueWords("ab at 1", x, 258, 5, 6, 0, 0, 0, 2, 2, 7, 2 | 1 << 12, 0, 0, 0, 0, 0, 0,
                1 | 2 << 6);
        ANSWERS.due("build 16", x.build(16), true);
        dueWords("ab at 16", x, 2 + 4096, 5, 6, 0, 0, 0, 2, 2, 2, 0, 0, 0, 0, 0, 0, 0, 1);
    }

    /** Promise 4: "Refused (false) when rate is not 1 .. 16", below. */
    private static void buildRefusesRatesTooSmall() {
        for (int rate : new int[] {0, -1, -16, -255, Integer.MIN_VALUE, Integer.MIN_VALUE + 1}) {
            Situation.dueRefusedInAll(ANSWERS, "build " + rate, x -> x.build(rate));
        }
    }

    /** Promise 4: "Refused (false) when rate is not 1 .. 16", above. */
    private static void buildRefusesRatesTooLarge() {
        for (int rate : new int[] {17, 18, 32, 60, 61, 256 + 1, 65536 + 1, Integer.MAX_VALUE}) {
            Situation.dueRefusedInAll(ANSWERS, "build " + rate, x -> x.build(rate));
        }
    }

    /** Promise 4 with a text of 0 characters: the END alone is one row, marked at every rate. */
    private static void buildOfTheEmptyText() {
        for (int rate = 1; rate <= 16; rate++) {
            SelfIndexImage x = new SelfIndexImage();
            ANSWERS.due("build of nothing at " + rate, x.build(rate), true);
            dueWords("nothing at " + rate, x, 256L * rate, 0, 0, 0, 0, 0, 0, 0, 1);
        }
    }

    /** Promise 4 with a text of 60 characters. */
    private static void buildOfAFullText() {
        for (String text : new String[] {FULL_TEXT, " ".repeat(60), "~".repeat(60)}) {
            SelfIndexImage x = new Twins().write(text).x;
            for (int rate = 1; rate <= 16; rate++) {
                ANSWERS.due("build of 60 at " + rate, x.build(rate), true);
                dueWords("60 at " + rate, x, NaiveImage.of(text, rate));
            }
        }
    }

    /** Promise 4: all 23 words are put, those that are 0 too. */
    private static void buildLeavesNothingOfTheDesk() {
        long[] ones = new long[NaiveImage.WORDS];
        Arrays.fill(ones, -1);
        SelfIndexImage x = new Twins().putAll(ones).x;
        x.build(2);
        dueWords("built on ones", x, 512, 0, 0, 0, 0, 0, 0, 0, 1);
    }

    /** Promise 4 tells of the desk alone. */
    private static void buildChangesNothingElse() {
        for (Situation situation : Situation.values()) {
            for (int rate : new int[] {1, 16}) {
                situation.make().build(rate)
                        .dueSame(ANSWERS, "build " + rate + " (" + situation + ")");
            }
        }
    }
}
