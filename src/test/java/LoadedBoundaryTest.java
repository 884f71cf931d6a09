import java.util.function.ToIntBiFunction;
import java.util.function.ToIntFunction;

/** The boundary cases of the promises 9 to 13: length, rate, charAt, rowOf and placeOf. */
public final class LoadedBoundaryTest {
    private static final Answers ANSWERS = new Answers("LoadedBoundaryTest");
    private static final int[] BELOW = {-1, -2, -61, -256, Integer.MIN_VALUE};
    private static final int[] FAR_ABOVE = {127, 128, 256, 65536, Integer.MAX_VALUE};
    private static final String[] TEXTS = {"", "a", "banana", "z".repeat(59), "ba".repeat(30)};

    private LoadedBoundaryTest() {
    }

    public static void main(String[] args) {
        noneIsMinusOne();
        lengthIsNoneWhenNoTextIsLoaded();
        lengthOfTheShortestAndTheLongest();
        rateIsNoneWhenNoTextIsLoaded();
        rateOfTheLeastAndTheGreatest();
        charAtIsNoneWhenNoTextIsLoaded();
        charAtIsNoneBelowTheFirstPlace();
        charAtIsNoneBehindTheEnd();
        charAtOfTheFirstAndTheLastCharacter();
        charAtTheEnd();
        rowOfIsNoneWhenNoTextIsLoaded();
        rowOfIsNoneBelowTheFirstPlace();
        rowOfIsNoneBehindTheEnd();
        rowOfTheFirstPlaceAndTheEnd();
        placeOfIsNoneWhenNoTextIsLoaded();
        placeOfIsNoneBelowTheFirstRow();
        placeOfIsNoneBehindTheLastRow();
        placeOfTheFirstAndTheLastRow();
        ANSWERS.end();
    }

    private static SelfIndexImage loaded(String text, int rate) {
        return new Twins().write(text).build(rate).load().x;
    }

    /** A text that is written and built, and words on the desk, are not a loaded text. */
    private static void dueNoneLoaded(String call, ToIntFunction<SelfIndexImage> asked) {
        for (Situation situation : new Situation[] {Situation.NEW, Situation.READY}) {
            Twins twins = situation.make();
            ANSWERS.due(call + ", none loaded", asked.applyAsInt(twins.x), -1);
            twins.dueSame(ANSWERS, "after " + call + " (" + situation + ")");
        }
        Twins refused = Situation.READY.make().put(22, 1);
        refused.x.load();
        ANSWERS.due(call + " after a load refused", asked.applyAsInt(refused.x), -1);
    }

    private static void dueNoneBelow(String call, ToIntBiFunction<SelfIndexImage, Integer> asked) {
        for (String text : TEXTS) {
            SelfIndexImage x = loaded(text, 3);
            for (int p : BELOW) {
                ANSWERS.due(call + p, asked.applyAsInt(x, p), -1);
            }
        }
    }

    private static void dueNoneBehind(String call, ToIntBiFunction<SelfIndexImage, Integer> asked) {
        for (String text : TEXTS) {
            // What a longer text may have left behind must not be seen.
            SelfIndexImage x = new Twins().write("q".repeat(60)).build(1).load().load()
                    .erase().write(text).build(3).load().x;
            for (int p = text.length() + 1; p <= 64; p++) {
                ANSWERS.due(call + p, asked.applyAsInt(x, p), -1);
            }
            for (int p : FAR_ABOVE) {
                ANSWERS.due(call + p, asked.applyAsInt(x, p), -1);
            }
        }
    }

    /** The face: "NONE = -1". */
    private static void noneIsMinusOne() {
        ANSWERS.due("NONE", SelfIndexImage.NONE, -1);
    }

    /** Promise 9: "NONE when none is loaded". */
    private static void lengthIsNoneWhenNoTextIsLoaded() {
        dueNoneLoaded("length", SelfIndexImage::length);
    }

    /** Promise 9: "The number of characters", 0 to 60, the END not among them. */
    private static void lengthOfTheShortestAndTheLongest() {
        ANSWERS.due("length of nothing", loaded("", 1).length(), 0);
        ANSWERS.due("length of one", loaded("a", 1).length(), 1);
        ANSWERS.due("length of 59", loaded("a".repeat(59), 1).length(), 59);
        ANSWERS.due("length of 60", loaded("a".repeat(60), 1).length(), 60);
    }

    /** Promise 10: "NONE when none is". */
    private static void rateIsNoneWhenNoTextIsLoaded() {
        dueNoneLoaded("rate", SelfIndexImage::rate);
    }

    /** Promise 10: "The rate of the image that was loaded", 1 to 16. */
    private static void rateOfTheLeastAndTheGreatest() {
        for (String text : TEXTS) {
            ANSWERS.due("rate 1", loaded(text, 1).rate(), 1);
            ANSWERS.due("rate 16", loaded(text, 16).rate(), 16);
            // The desk has another rate by then.
            SelfIndexImage x = loaded(text, 16);
            x.build(1);
            ANSWERS.due("rate loaded, not built", x.rate(), 16);
        }
    }

    /** Promise 11: "NONE when no text is loaded". */
    private static void charAtIsNoneWhenNoTextIsLoaded() {
        dueNoneLoaded("charAt 0", x -> x.charAt(0));
        dueNoneLoaded("charAt -1", x -> x.charAt(-1));
    }

    /** Promise 11: "NONE when .. p is not 0 .. length()", below. */
    private static void charAtIsNoneBelowTheFirstPlace() {
        dueNoneBelow("charAt ", SelfIndexImage::charAt);
    }

    /** Promise 11: "NONE when .. p is not 0 .. length()", above. */
    private static void charAtIsNoneBehindTheEnd() {
        dueNoneBehind("charAt ", SelfIndexImage::charAt);
    }

    /** Promise 11: "The code of the character at place p"; "places count from 0". */
    private static void charAtOfTheFirstAndTheLastCharacter() {
        SelfIndexImage x = loaded(" " + "m".repeat(58) + "~", 16);
        ANSWERS.due("charAt 0", x.charAt(0), 32);
        ANSWERS.due("charAt 59", x.charAt(59), 126);
    }

    /** Promise 11: "0 at its END"; "the END, with code 0, at place n". */
    private static void charAtTheEnd() {
        for (String text : TEXTS) {
            SelfIndexImage x = loaded(text, 2);
            ANSWERS.due("charAt the END of " + text, x.charAt(text.length()), 0);
        }
    }

    /** Promise 12: "NONE likewise", when no text is loaded. */
    private static void rowOfIsNoneWhenNoTextIsLoaded() {
        dueNoneLoaded("rowOf 0", x -> x.rowOf(0));
        dueNoneLoaded("rowOf -1", x -> x.rowOf(-1));
    }

    /** Promise 12: "NONE likewise", when p is too small. */
    private static void rowOfIsNoneBelowTheFirstPlace() {
        dueNoneBelow("rowOf ", SelfIndexImage::rowOf);
    }

    /** Promise 12: "NONE likewise", when p is too large. */
    private static void rowOfIsNoneBehindTheEnd() {
        dueNoneBehind("rowOf ", SelfIndexImage::rowOf);
    }

    /** Promise 12 at places 0 and n; the END is smaller than every character. */
    private static void rowOfTheFirstPlaceAndTheEnd() {
        for (String text : TEXTS) {
            SelfIndexImage x = loaded(text, 16);
            ANSWERS.due("rowOf the END of " + text, x.rowOf(text.length()), 0);
        }
        ANSWERS.due("rowOf 0 of 60 alike", loaded("z".repeat(60), 16).rowOf(0), 60);
        ANSWERS.due("rowOf 0 of 59 and a z", loaded("y".repeat(59) + "z", 16).rowOf(0), 1);
        ANSWERS.due("rowOf 59", loaded("y".repeat(59) + "z", 16).rowOf(59), 60);
        ANSWERS.due("rowOf 59 of blanks", loaded(" ".repeat(60), 16).rowOf(59), 1);
    }

    /** Promise 13: "NONE when no text is loaded". */
    private static void placeOfIsNoneWhenNoTextIsLoaded() {
        dueNoneLoaded("placeOf 0", x -> x.placeOf(0));
        dueNoneLoaded("placeOf -1", x -> x.placeOf(-1));
    }

    /** Promise 13: "NONE when .. r is not 0 .. length()", below. */
    private static void placeOfIsNoneBelowTheFirstRow() {
        dueNoneBelow("placeOf ", SelfIndexImage::placeOf);
    }

    /** Promise 13: "NONE when .. r is not 0 .. length()", above. */
    private static void placeOfIsNoneBehindTheLastRow() {
        dueNoneBehind("placeOf ", SelfIndexImage::placeOf);
    }

    /** Promise 13 at rows 0 and n. */
    private static void placeOfTheFirstAndTheLastRow() {
        for (String text : TEXTS) {
            SelfIndexImage x = loaded(text, 16);
            ANSWERS.due("placeOf 0 of " + text, x.placeOf(0), text.length());
        }
        ANSWERS.due("placeOf 60 of 60 alike", loaded("z".repeat(60), 16).placeOf(60), 0);
        ANSWERS.due("placeOf 60", loaded("y".repeat(59) + "z", 16).placeOf(60), 59);
        ANSWERS.due("placeOf 1", loaded("y".repeat(59) + "z", 16).placeOf(1), 0);
        ANSWERS.due("placeOf 1 of a", loaded("a", 16).placeOf(1), 0);
    }
}
