/** The boundary cases of the promises 14 to 19: ask, back, count, firstRow, locate and variety. */
public final class PatternBoundaryTest {
    private static final Answers ANSWERS = new Answers("PatternBoundaryTest");
    private static final Situation[] NONE_LOADED = {Situation.NEW, Situation.READY};
    private static final String TWENTY = "abcdefghijklmnopqrst";

    private PatternBoundaryTest() {
    }

    public static void main(String[] args) {
        askTakesTheLeastAndTheGreatestCode();
        askRefusesCodesTooSmall();
        askRefusesCodesTooLarge();
        askTakesNoCodeButThose();
        askTakesTheTwentiethCharacter();
        askRefusesTheNextCharacter();
        askNeedsNoLoadedText();
        askChangesNothingElse();
        backTakesTheOnlyCharacter();
        backOfAFullPatternMakesRoom();
        backIsRefusedWhenThePatternIsEmpty();
        backChangesNothingElse();
        countIsNoneWhenNoTextIsLoaded();
        countOfTheEmptyPattern();
        countOfWhatDoesNotOccur();
        countOfWhatWouldReachBehindTheEnd();
        countOfWhatOverlapsItself();
        countOfTheLongestPattern();
        firstRowIsNoneWhenNoTextIsLoaded();
        firstRowIsNoneWhenThePatternDoesNotOccur();
        firstRowOfTheEmptyPattern();
        firstRowThatIsTheLast();
        firstRowIsTheLeastOne();
        locateIsNoneWhenNoTextIsLoaded();
        locateIsNoneBelowZero();
        locateIsNoneWhenItDoesNotOccurSoOften();
        locateOfTheFirstAndTheLast();
        locateOfTheEmptyPattern();
        varietyIsNoneWhenNoTextIsLoaded();
        varietyOfWhatDoesNotOccur();
        varietyDoesNotCountTheEnd();
        varietyCountsEachCharacterOnce();
        varietyOfTheEmptyPattern();
        varietyOfTheLeastAndTheGreatestCode();
        varietyOfTheMost();
        ANSWERS.end();
    }

    private static SelfIndexImage asked(String text, String pattern) {
        return new Twins().write(text).build(4).load().ask(pattern).x;
    }

    /** Promise 14: "Refused (false) when its code is not 32 .. 126": these two are not. */
    private static void askTakesTheLeastAndTheGreatestCode() {
        SelfIndexImage x = asked("a ~ ~", "");
        ANSWERS.due("ask 32", x.ask((char) 32), true);
        ANSWERS.due("count of a blank", x.count(), 2);
        ANSWERS.due("ask 126", x.ask((char) 126), true);
        ANSWERS.due("locate of both", x.locate(1), 3);
    }

    /** Promise 14: "Refused (false) when its code is not 32 .. 126", below. */
    private static void askRefusesCodesTooSmall() {
        for (int code : new int[] {0, 1, 31}) {
            Situation.dueRefusedInAll(ANSWERS, "ask " + code, x -> x.ask((char) code));
        }
    }

    /** Promise 14: "Refused (false) when its code is not 32 .. 126", above. */
    private static void askRefusesCodesTooLarge() {
        for (int code : new int[] {127, 128, 255, 256, 256 + 97, 32768, 65536 - 159, 65535}) {
            Situation.dueRefusedInAll(ANSWERS, "ask " + code, x -> x.ask((char) code));
        }
    }

    /** Promise 14: every single code. */
    private static void askTakesNoCodeButThose() {
        SelfIndexImage x = new SelfIndexImage();
        for (int code = 0; code <= 65535; code++) {
            if (code % 256 == 0) {
                x = new SelfIndexImage();
            }
            boolean isCharacter = code >= 32 && code <= 126;
            ANSWERS.due("ask " + code, x.ask((char) code), isCharacter);
            ANSWERS.due("back after it", x.back(), isCharacter);
        }
    }

    /** Promise 14: "or it has 20"; "a PATTERN of at most 20 characters". */
    private static void askTakesTheTwentiethCharacter() {
        SelfIndexImage x = asked("0" + TWENTY + TWENTY.substring(0, 19), "");
        for (int i = 0; i < 19; i++) {
            ANSWERS.due("ask number " + i, x.ask(TWENTY.charAt(i)), true);
        }
        ANSWERS.due("count of 19 characters", x.count(), 2);
        ANSWERS.due("ask number 20", x.ask(TWENTY.charAt(19)), true);
        ANSWERS.due("count of 20 characters", x.count(), 1);
    }

    /** Promise 14: "Refused (false) when .. it has 20". */
    private static void askRefusesTheNextCharacter() {
        for (char c : new char[] {' ', 'a', '~', 0, 127}) {
            Situation.FULL.dueRefused(ANSWERS, "ask " + (int) c, x -> x.ask(c));
        }
        Situation.FULL.dueRefused(ANSWERS, "ask twice", x -> x.ask('a') || x.ask('b'));
    }

    /** Promise 14 names no other reason to refuse, as that none is loaded or it does not occur. */
    private static void askNeedsNoLoadedText() {
        for (String text : new String[] {null, "", "x"}) {
            Twins twins = text == null ? new Twins() : new Twins().write(text).build(1).load();
            for (char c : TWENTY.toCharArray()) {
                twins.house.ask(c);
                ANSWERS.due("ask " + c + " of " + text, twins.x.ask(c), true);
            }
            twins.dueSame(ANSWERS, "twenty asked of " + text);
        }
    }

    /** Promise 14 tells of the pattern alone. */
    private static void askChangesNothingElse() {
        for (Situation situation : Situation.values()) {
            situation.make().ask("a").dueSame(ANSWERS, "ask (" + situation + ")");
        }
    }

    /** Promise 15: from one character to none. */
    private static void backTakesTheOnlyCharacter() {
        SelfIndexImage x = asked("abc", "z");
        ANSWERS.due("count of z", x.count(), 0);
        ANSWERS.due("back", x.back(), true);
        ANSWERS.due("count of the empty pattern", x.count(), 4);
        ANSWERS.due("back again", x.back(), false);
    }

    /** Promise 15: from 20 characters to 19, which have room for one more. */
    private static void backOfAFullPatternMakesRoom() {
        SelfIndexImage x = asked("a".repeat(19) + "b" + "a".repeat(19) + "c", "a".repeat(19) + "b");
        ANSWERS.due("back of 20", x.back(), true);
        ANSWERS.due("count of 19", x.count(), 2);
        ANSWERS.due("ask after back", x.ask('c'), true);
        ANSWERS.due("locate 0", x.locate(0), 20);
        ANSWERS.due("ask when it has 20 again", x.ask('d'), false);
    }

    /** Promise 15: "Refused (false) when it is empty". */
    private static void backIsRefusedWhenThePatternIsEmpty() {
        for (Situation situation : new Situation[] {Situation.NEW, Situation.EMPTY_TEXT_LOADED}) {
            situation.dueRefused(ANSWERS, "back", SelfIndexImage::back);
            situation.dueRefused(ANSWERS, "back, twice", x -> x.back() || x.back());
        }
        Twins twins = new Twins().write("abc").build(2).load();
        ANSWERS.due("back of a pattern never asked", twins.x.back(), false);
        twins.dueSame(ANSWERS, "after back of a pattern never asked");
    }

    /** Promise 15 tells of the pattern alone. */
    private static void backChangesNothingElse() {
        for (Situation situation : Situation.values()) {
            Twins twins = situation.make();
            ANSWERS.due("back (" + situation + ")", twins.x.back(), twins.house.back());
            twins.dueSame(ANSWERS, "after back (" + situation + ")");
        }
    }

    /** Promise 16: "NONE when none is loaded". */
    private static void countIsNoneWhenNoTextIsLoaded() {
        for (Situation situation : NONE_LOADED) {
            ANSWERS.due("count (" + situation + ")", situation.make().x.count(), -1);
        }
        ANSWERS.due("count of a, none loaded", new Twins().ask("a").x.count(), -1);
    }

    /** "the empty one occurs at all places 0 .. n". */
    private static void countOfTheEmptyPattern() {
        ANSWERS.due("count, empty in empty", asked("", "").count(), 1);
        ANSWERS.due("count, empty in one", asked("a", "").count(), 2);
        ANSWERS.due("count, empty in 60", asked("ab".repeat(30), "").count(), 61);
    }

    /** Promise 16: what does not occur, occurs 0 times, and not NONE. */
    private static void countOfWhatDoesNotOccur() {
        ANSWERS.due("count, a in empty", asked("", "a").count(), 0);
        ANSWERS.due("count, b in a", asked("a", "b").count(), 0);
        ANSWERS.due("count, 20 in empty", asked("", TWENTY).count(), 0);
        ANSWERS.due("count, ba in ab", asked("ab", "ba").count(), 0);
    }

    /** "its characters stand at p, p + 1, ..": the END is none of them, and nothing comes again. */
    private static void countOfWhatWouldReachBehindTheEnd() {
        ANSWERS.due("count, aa in a", asked("a", "aa").count(), 0);
        ANSWERS.due("count, abcd in abc", asked("abc", "abcd").count(), 0);
        ANSWERS.due("count, abca in abc", asked("abc", "abca").count(), 0);
        ANSWERS.due("count, ca in abc", asked("abc", "ca").count(), 0);
        ANSWERS.due("count, yy in 59 and y", asked("x".repeat(59) + "y", "yy").count(), 0);
        // The shorter text stands where a longer one was.
        SelfIndexImage x = new Twins().write("q".repeat(60)).build(1).load().load()
                .erase().write("qq").build(1).load().ask("qqq").x;
        ANSWERS.due("count, qqq in qq", x.count(), 0);
    }

    /** Each place counts, those inside an earlier occurrence too. */
    private static void countOfWhatOverlapsItself() {
        ANSWERS.due("count, aa in aaaa", asked("aaaa", "aa").count(), 3);
        ANSWERS.due("count, aba in ababa", asked("ababa", "aba").count(), 2);
        ANSWERS.due("count, a in 60", asked("a".repeat(60), "a").count(), 60);
    }

    /** A pattern of 20 characters, as long as the text and shorter than it. */
    private static void countOfTheLongestPattern() {
        ANSWERS.due("count, 20 in itself", asked(TWENTY, TWENTY).count(), 1);
        ANSWERS.due("count, 20 in 19", asked(TWENTY.substring(1), TWENTY).count(), 0);
        ANSWERS.due("count, 20 in 60", asked("a".repeat(60), "a".repeat(20)).count(), 41);
        ANSWERS.due("count, 20 three times", asked(TWENTY.repeat(3), TWENTY).count(), 3);
        // All but the last character stand there.
        ANSWERS.due("count, 19 and another", asked(TWENTY, "abcdefghijklmnopqrsu").count(), 0);
    }

    /** Promise 17: "NONE when .. no text is loaded". */
    private static void firstRowIsNoneWhenNoTextIsLoaded() {
        for (Situation situation : NONE_LOADED) {
            ANSWERS.due("firstRow (" + situation + ")", situation.make().x.firstRow(), -1);
        }
    }

    /** Promise 17: "NONE when the pattern does not occur". */
    private static void firstRowIsNoneWhenThePatternDoesNotOccur() {
        ANSWERS.due("firstRow, a in empty", asked("", "a").firstRow(), -1);
        // Smaller, between and greater than all rows.
        ANSWERS.due("firstRow, a in bd", asked("bd", "a").firstRow(), -1);
        ANSWERS.due("firstRow, c in bd", asked("bd", "c").firstRow(), -1);
        ANSWERS.due("firstRow, e in bd", asked("bd", "e").firstRow(), -1);
        ANSWERS.due("firstRow, bdb in bd", asked("bd", "bdb").firstRow(), -1);
    }

    /** Promise 17: every suffix begins with the empty pattern, that of row 0 too. */
    private static void firstRowOfTheEmptyPattern() {
        ANSWERS.due("firstRow, empty in empty", asked("", "").firstRow(), 0);
        ANSWERS.due("firstRow, empty in 60", asked("z".repeat(60), "").firstRow(), 0);
    }

    /** Promise 17: the last row of all. */
    private static void firstRowThatIsTheLast() {
        ANSWERS.due("firstRow, b in ab", asked("ab", "b").firstRow(), 2);
        ANSWERS.due("firstRow 60", asked("a".repeat(59) + "b", "b").firstRow(), 60);
        ANSWERS.due("firstRow of one", asked("~", "~").firstRow(), 1);
    }

    /** Promise 17: "The least row", which may be that of the last place. */
    private static void firstRowIsTheLeastOne() {
        ANSWERS.due("firstRow, a in aaaa", asked("aaaa", "a").firstRow(), 1);
        ANSWERS.due("firstRow, ab in abab", asked("abab", "ab").firstRow(), 1);
        ANSWERS.due("firstRow, 20 in 60", asked("a".repeat(60), "a".repeat(20)).firstRow(), 20);
    }

    /** Promise 18: "NONE when .. no text is loaded". */
    private static void locateIsNoneWhenNoTextIsLoaded() {
        for (Situation situation : NONE_LOADED) {
            for (int k : new int[] {-1, 0, 1}) {
                ANSWERS.due("locate (" + situation + ")", situation.make().x.locate(k), -1);
            }
        }
    }

    /** Promise 18: "NONE when .. k is below 0". */
    private static void locateIsNoneBelowZero() {
        for (int k : new int[] {-1, -2, -61, Integer.MIN_VALUE}) {
            ANSWERS.due("locate " + k + ", empty in empty", asked("", "").locate(k), -1);
            ANSWERS.due("locate " + k + ", a in aa", asked("aa", "a").locate(k), -1);
        }
    }

    /** Promise 18: "NONE when it does not occur so often". */
    private static void locateIsNoneWhenItDoesNotOccurSoOften() {
        ANSWERS.due("locate 0, a in empty", asked("", "a").locate(0), -1);
        ANSWERS.due("locate 1, empty in empty", asked("", "").locate(1), -1);
        ANSWERS.due("locate 2, a in aa", asked("aa", "a").locate(2), -1);
        ANSWERS.due("locate 61, empty in 60", asked("a".repeat(60), "").locate(61), -1);
        for (int k : new int[] {2, 61, 256, 65536, Integer.MAX_VALUE}) {
            ANSWERS.due("locate " + k + ", b in bab", asked("bab", "b").locate(k), -1);
        }
    }

    /** Promise 18: "The k-th place, from 0 and in growing order". */
    private static void locateOfTheFirstAndTheLast() {
        SelfIndexImage x = asked("b" + "a".repeat(58) + "b", "b");
        ANSWERS.due("locate 0", x.locate(0), 0);
        ANSWERS.due("locate 1", x.locate(1), 59);
        SelfIndexImage y = asked("a".repeat(60), "a".repeat(20));
        ANSWERS.due("locate 0 of 20 in 60", y.locate(0), 0);
        ANSWERS.due("locate 40 of 20 in 60", y.locate(40), 40);
        ANSWERS.due("locate 41 of 20 in 60", y.locate(41), -1);
    }

    /** "the empty one occurs at all places 0 .. n". */
    private static void locateOfTheEmptyPattern() {
        ANSWERS.due("locate 0, empty in empty", asked("", "").locate(0), 0);
        SelfIndexImage x = asked("ba".repeat(30), "");
        for (int k = 0; k <= 60; k++) {
            ANSWERS.due("locate " + k + ", empty in 60", x.locate(k), k);
        }
    }

    /** Promise 19: "NONE when no text is loaded". */
    private static void varietyIsNoneWhenNoTextIsLoaded() {
        for (Situation situation : NONE_LOADED) {
            ANSWERS.due("variety (" + situation + ")", situation.make().x.variety(), -1);
        }
    }

    /** Promise 19: nothing stands before no place, and that is 0, not NONE. */
    private static void varietyOfWhatDoesNotOccur() {
        ANSWERS.due("variety, a in empty", asked("", "a").variety(), 0);
        ANSWERS.due("variety, d in abc", asked("abc", "d").variety(), 0);
        ANSWERS.due("variety, cc in abc", asked("abc", "cc").variety(), 0);
    }

    /** Promise 19: "(the END not counted)": it is what stands before place 0. */
    private static void varietyDoesNotCountTheEnd() {
        ANSWERS.due("variety, empty in empty", asked("", "").variety(), 0);
        ANSWERS.due("variety, a in abc", asked("abc", "a").variety(), 0);
        ANSWERS.due("variety, a in aba", asked("aba", "a").variety(), 1);
        ANSWERS.due("variety, 20 in 20", asked(TWENTY, TWENTY).variety(), 0);
    }

    /** Promise 19: "different characters". */
    private static void varietyCountsEachCharacterOnce() {
        ANSWERS.due("variety, a in 60", asked("a".repeat(60), "a").variety(), 1);
        ANSWERS.due("variety, b in ab..", asked("ab".repeat(30), "b").variety(), 1);
        ANSWERS.due("variety, b in abcbab", asked("abcbab", "b").variety(), 2);
    }

    /** Promise 19 with the empty pattern: the last character stands before the END. */
    private static void varietyOfTheEmptyPattern() {
        ANSWERS.due("variety, empty in one", asked("a", "").variety(), 1);
        ANSWERS.due("variety, empty in abc", asked("abc", "").variety(), 3);
        ANSWERS.due("variety, empty in 60", asked("a".repeat(59) + "b", "").variety(), 2);
    }

    /** Promise 19: codes 32 and 126, and those on both sides of 64 and 96. */
    private static void varietyOfTheLeastAndTheGreatestCode() {
        ANSWERS.due("variety, of 32", asked(" x", "x").variety(), 1);
        ANSWERS.due("variety, of 126", asked("~x", "x").variety(), 1);
        ANSWERS.due("variety, of 32 and 96", asked(" x`x", "x").variety(), 2);
        ANSWERS.due("variety, of 62 and 126", asked(">x~x", "x").variety(), 2);
        ANSWERS.due("variety, of 63, 64 and 95", asked("?x@x_x", "x").variety(), 3);
    }

    /** Promise 19: sixty characters, all different. */
    private static void varietyOfTheMost() {
        for (int least : new int[] {32, 50, 67}) {
            StringBuilder text = new StringBuilder();
            for (int code = least; code < least + 60; code++) {
                text.append((char) code);
            }
            ANSWERS.due("variety from " + least, asked(text.toString(), "").variety(), 60);
        }
    }
}
