/** The promises 1 to 19, one after the other: ordinary inputs, the edges, and wrong inputs. */
public final class PromisesTest {
    private static final Answers ANSWERS = new Answers("PromisesTest");
    private static final int[] NO_WORDS = {Integer.MIN_VALUE, -1, 23, 24, 64, Integer.MAX_VALUE};
    private static final int[] NO_RATES = {Integer.MIN_VALUE, -1, 0, 17, 32, 257, Integer.MAX_VALUE};
    private static final int[] NO_CODES = {0, 1, 31, 127, 128, 255, 256 + 97, 65535};

    private PromisesTest() {
    }

    public static void main(String[] args) {
        promise1NewObject();
        promise2Write();
        promise3Erase();
        promise4BuildSmall();
        promise4BuildOrdinary();
        promise4BuildFull();
        promise4BuildRefused();
        promise5Word();
        promise6Put();
        promise7Flip();
        promise8Load();
        promise8LoadRefused();
        promise8LoadKeepsTextsApart();
        promise9Length();
        promise10Rate();
        promise11CharAt();
        promise12RowOf();
        promise13PlaceOf();
        promise14Ask();
        promise15Back();
        promise16Count();
        promise17FirstRow();
        promise18Locate();
        promise19Variety();
        promise19VarietyOfAllCodes();
        ANSWERS.end();
    }

    private static void due(String call, long got, long want) {
        ANSWERS.due(call, got, want);
    }

    private static void due(String call, boolean got, boolean want) {
        ANSWERS.due(call, got, want);
    }

    private static SelfIndexImage written(String text) {
        SelfIndexImage x = new SelfIndexImage();
        writeAll(x, text);
        return x;
    }

    private static void writeAll(SelfIndexImage x, String text) {
        for (char c : text.toCharArray()) {
            due("write " + c, x.write(c), true);
        }
    }

    private static SelfIndexImage loaded(String text, int rate) {
        SelfIndexImage x = written(text);
        due("build " + rate, x.build(rate), true);
        due("load of " + text, x.load(), true);
        return x;
    }

    private static void askAll(SelfIndexImage x, String text) {
        for (char c : text.toCharArray()) {
            due("ask " + c, x.ask(c), true);
        }
    }

    private static void emptyPattern(SelfIndexImage x) {
        for (int i = 0; i <= 20; i++) {
            if (!x.back()) {
                return;
            }
        }
    }

    private static void dueWords(String what, SelfIndexImage x, long... want) {
        for (int k = 0; k < 23; k++) {
            due(what + ": word " + k, x.word(k), k < want.length ? want[k] : 0);
        }
    }

    private static void dueText(SelfIndexImage x, String text) {
        due("length of " + text, x.length(), text.length());
        for (int p = 0; p < text.length(); p++) {
            due("charAt " + p + " of " + text, x.charAt(p), text.charAt(p));
        }
        due("charAt the END of " + text, x.charAt(text.length()), 0);
    }

    private static void dueNothingLoaded(SelfIndexImage x) {
        due("NONE", SelfIndexImage.NONE, -1);
        due("length, none loaded", x.length(), -1);
        due("rate, none loaded", x.rate(), -1);
        due("count, none loaded", x.count(), -1);
        due("firstRow, none loaded", x.firstRow(), -1);
        due("variety, none loaded", x.variety(), -1);
        for (int p = -2; p <= 2; p++) {
            due("charAt, none loaded", x.charAt(p), -1);
            due("rowOf, none loaded", x.rowOf(p), -1);
            due("placeOf, none loaded", x.placeOf(p), -1);
            due("locate, none loaded", x.locate(p), -1);
        }
    }

    private static void promise1NewObject() {
        SelfIndexImage x = new SelfIndexImage();
        dueWords("new", x);
        dueNothingLoaded(x);
        due("back, new", x.back(), false);
        due("load, new", x.load(), false);
        dueNothingLoaded(x);
        due("build, new", x.build(1), true);
        due("word 0 of the empty text", x.word(0), 256);
        due("load of the empty text", x.load(), true);
        due("count of the empty pattern", x.count(), 1);
    }

    private static void promise2Write() {
        SelfIndexImage x = new SelfIndexImage();
        for (int code : NO_CODES) {
            due("write " + code, x.write((char) code), false);
        }
        due("write 32", x.write((char) 32), true);
        due("write 126", x.write((char) 126), true);
        for (int code : NO_CODES) {
            due("write " + code, x.write((char) code), false);
        }
        x.build(1);
        x.load();
        dueText(x, " ~");
        for (int i = 2; i < 60; i++) {
            due("write number " + i, x.write('q'), true);
        }
        due("write number 60", x.write('z'), false);
        due("write number 60 again", x.write('q'), false);
        x.build(1);
        x.load();
        dueText(x, " ~" + "q".repeat(58));
    }

    private static void promise3Erase() {
        SelfIndexImage x = loaded("abc", 2);
        askAll(x, "b");
        x.erase();
        due("word 0 after erase", x.word(0), 3 + 512);
        dueText(x, "abc");
        due("count after erase", x.count(), 1);
        x.build(3);
        dueWords("erased", x, 768, 0, 0, 0, 0, 0, 0, 0, 1);
        x.erase();
        writeAll(x, "x".repeat(60));
        x.erase();
        writeAll(x, "y");
        x.build(1);
        x.load();
        dueText(x, "y");
    }

    private static void promise4BuildSmall() {
        for (int rate = 1; rate <= 16; rate++) {
            SelfIndexImage x = new SelfIndexImage();
            due("build", x.build(rate), true);
            dueWords("empty at " + rate, x, 256L * rate, 0, 0, 0, 0, 0, 0, 0, 1);
        }
        // "~" is 126 = 1111110 in bits; rows: the END at place 1, then place 0.
        SelfIndexImage x = written("~");
        x.build(1);
        dueWords("one at 1", x, 257, 1, 2, 2, 2, 2, 2, 0, 3, 1, 0, 0, 0, 0, 0, 0, 1);
        x.build(2);
        dueWords("one at 2", x, 513, 1, 2, 2, 2, 2, 2, 0, 2, 0, 0, 0, 0, 0, 0, 0, 1);
    }

    private static void promise4BuildOrdinary() {
        SelfIndexImage x = written("abab");
        due("build 2", x.build(2), true);
        // Rows: place 4, 2, 0, 3, 1; their BEFOREs: b, b, the END, a, a.
        dueWords("abab", x, 516, 27, 30, 0, 0, 0, 6, 6, 7, 2 + (1 << 6), 0, 0, 0, 0, 0, 0,
                2 + (1 << 6));
        due("build 3", x.build(3), true);
        dueWords("abab at 3", x, 4 + 768, 27, 30, 0, 0, 0, 6, 6, 12, 1 << 6, 0, 0, 0, 0, 0, 0,
                2 + (3 << 6));
        due("write", x.write('c'), true);
        due("word 0 before building again", x.word(0), 4 + 768);
        due("build 3", x.build(3), true);
        due("word 0 after building again", x.word(0), 5 + 768);
    }

    private static void promise4BuildFull() {
        SelfIndexImage x = written("a".repeat(60));
        x.build(1);
        // Row r is place 60 - r, and all of its 61 numbers fill seven words.
        due("full: word 0", x.word(0), 60 + 256);
        due("full: word 1", x.word(1), (1L << 60) - 1);
        due("full: word 2", x.word(2), ((1L << 61) - 1) ^ 1);
        due("full: word 8", x.word(8), (1L << 61) - 1);
        for (int w = 0; w < 7; w++) {
            long falling = 0;
            for (int i = 0; i < 10 && 10 * w + i <= 60; i++) {
                falling |= (60L - 10 * w - i) << (6 * i);
            }
            due("full: word " + (9 + w), x.word(9 + w), falling);
            due("full: word " + (16 + w), x.word(16 + w), falling);
        }
        x.build(16);
        due("full at 16: word 8", x.word(8), 1L << 12 | 1L << 28 | 1L << 44 | 1L << 60);
        due("full at 16: word 9", x.word(9), 3 | 2 << 6 | 1 << 12);
        due("full at 16: word 16", x.word(16), 60 | 44 << 6 | 28 << 12 | 12 << 18);
        due("full at 16: word 17", x.word(17), 0);
    }

    private static void promise4BuildRefused() {
        SelfIndexImage x = written("ab");
        for (int rate : NO_RATES) {
            due("build " + rate, x.build(rate), false);
        }
        dueWords("refused on an empty desk", x);
        x.put(5, 55);
        for (int rate : NO_RATES) {
            due("build " + rate, x.build(rate), false);
        }
        dueWords("refused on a full desk", x, 0, 0, 0, 0, 0, 55);
        due("build", x.build(16), true);
        due("build overwrites", x.word(5), 0);
        x.put(22, 7);
        due("build", x.build(1), true);
        due("build overwrites the last word", x.word(22), 0);
    }

    private static void promise5Word() {
        SelfIndexImage x = new SelfIndexImage();
        for (int k = 0; k < 23; k++) {
            x.put(k, Long.MIN_VALUE + k);
        }
        for (int k = 0; k < 23; k++) {
            due("word " + k, x.word(k), Long.MIN_VALUE + k);
        }
        for (int k : NO_WORDS) {
            due("word " + k, x.word(k), 0);
        }
    }

    private static void promise6Put() {
        SelfIndexImage x = new SelfIndexImage();
        due("put 0", x.put(0, -1), true);
        due("put 22", x.put(22, Long.MAX_VALUE), true);
        due("put 10", x.put(10, 10), true);
        due("put 10 again", x.put(10, 1L << 40), true);
        for (int k : NO_WORDS) {
            due("put " + k, x.put(k, 99), false);
        }
        dueWords("put", x, -1, 0, 0, 0, 0, 0, 0, 0, 0, 0, 1L << 40, 0, 0, 0, 0, 0, 0, 0, 0, 0, 0, 0,
                Long.MAX_VALUE);
        due("put 0 on any word", x.put(0, 0), true);
        due("word 0", x.word(0), 0);
    }

    private static void promise7Flip() {
        SelfIndexImage x = new SelfIndexImage();
        due("flip 0 0", x.flip(0, 0), true);
        due("flip 22 63", x.flip(22, 63), true);
        due("flip 3 31", x.flip(3, 31), true);
        due("flip 3 32", x.flip(3, 32), true);
        due("flip 4 5", x.flip(4, 5), true);
        due("flip 4 5 back", x.flip(4, 5), true);
        for (int k : NO_WORDS) {
            due("flip of word " + k, x.flip(k, 0), false);
        }
        for (int b : new int[] {Integer.MIN_VALUE, -64, -1, 64, 65, 128, Integer.MAX_VALUE}) {
            due("flip of bit " + b, x.flip(7, b), false);
        }
        dueWords("flip", x, 1, 0, 0, 3L << 31, 0, 0, 0, 0, 0, 0, 0, 0, 0, 0, 0, 0, 0, 0, 0, 0, 0, 0,
                Long.MIN_VALUE);
        for (int b = 0; b < 64; b++) {
            due("flip 1 " + b, x.flip(1, b), true);
        }
        due("all flipped", x.word(1), -1);
    }

    private static void promise8Load() {
        String[] texts = {"", " ", "~", "a", "aa", "ab", "ba", "abracadabra", "mississippi",
            "to be or not to be, that is the question: to sleep", "~".repeat(60), " ".repeat(60),
            "ab".repeat(30), "zyxwvutsrqponmlkjihgfedcba`_^]\\[ZYXWVUTSRQPONMLKJIHGFEDCBA@?"};
        for (String text : texts) {
            for (int rate = 1; rate <= 16; rate++) {
                SelfIndexImage x = loaded(text, rate);
                dueText(x, text);
                due("rate of " + text, x.rate(), rate);
            }
        }
        // Words that were put one by one count like words that were built.
        SelfIndexImage x = new SelfIndexImage();
        long[] words = NaiveImage.of("banana", 4);
        for (int k = 0; k <= 16; k++) {
            due("load before word " + k, x.load(), false);
            x.put(k, words[k]);
        }
        due("load of banana", x.load(), true);
        dueText(x, "banana");
    }

    private static void promise8LoadRefused() {
        SelfIndexImage x = loaded("abcab", 3);
        askAll(x, "ab");
        // The numbers of characters and the rates next to the due ones, and bits far above them.
        long head = x.word(0);
        long[] heads = {0, 5, 256, head - 1, head + 1, head - 256, head + 256, 5 + 256 * 17,
            61 + 768, 255 + 768, -1, -head, head | 1L << 16, head | 1L << 40, head | 1L << 63,
            Long.MIN_VALUE, Long.MAX_VALUE};
        for (long other : heads) {
            x.put(0, other);
            due("load with head " + other, x.load(), false);
            due("word 0 after a load refused", x.word(0), other);
        }
        x.put(0, head);
        due("load with its own head", x.load(), true);
        // No text has two ENDs, or none.
        for (int k = 1; k <= 7; k++) {
            x.put(k, 0);
        }
        due("load of nothing but ENDs", x.load(), false);
        for (int k = 1; k <= 7; k++) {
            x.put(k, -1);
        }
        due("load of bits everywhere", x.load(), false);
        dueText(x, "abcab");
        due("rate after loads refused", x.rate(), 3);
        due("count after loads refused", x.count(), 2);
        for (int k = 1; k <= 22; k++) {
            x.build(3);
            for (int b = 60; b < 64; b++) {
                x.flip(k, b);
                due("load with bit " + b + " too much in word " + k, x.load(), false);
                x.flip(k, b);
            }
        }
    }

    private static void promise8LoadKeepsTextsApart() {
        SelfIndexImage x = loaded("first text", 2);
        askAll(x, "t");
        x.erase();
        writeAll(x, "another one, longer than that");
        dueText(x, "first text");
        x.build(5);
        dueText(x, "first text");
        due("rowOf before the second load", x.rowOf(0), NaiveImage.rowOf("first text", 0));
        due("placeOf before the second load", x.placeOf(3), NaiveImage.placeOf("first text", 3));
        due("count before the second load", x.count(), 3);
        due("second load", x.load(), true);
        dueText(x, "another one, longer than that");
        due("rate after the second load", x.rate(), 5);
        due("count after the second load", x.count(), 4);
        x.put(3, 12345);
        due("third load", x.load(), false);
        dueText(x, "another one, longer than that");
        due("firstRow after the third load", x.firstRow(), 26);
        x.erase();
        x.build(7);
        due("fourth load", x.load(), true);
        dueText(x, "");
        due("count after the fourth load", x.count(), 0);
    }

    private static void promise9Length() {
        for (int n = 0; n <= 60; n++) {
            due("length", loaded("k".repeat(n), 1 + n % 16).length(), n);
        }
        due("length, none loaded", written("abc").length(), -1);
    }

    private static void promise10Rate() {
        for (int rate = 1; rate <= 16; rate++) {
            SelfIndexImage x = loaded("rate", rate);
            x.build(17 - rate);
            due("rate", x.rate(), rate);
            x.load();
            due("rate", x.rate(), 17 - rate);
        }
        SelfIndexImage x = written("rate");
        x.build(3);
        due("rate, none loaded", x.rate(), -1);
    }

    private static void promise11CharAt() {
        SelfIndexImage x = loaded("Hello, World~", 16);
        dueText(x, "Hello, World~");
        for (int p : new int[] {Integer.MIN_VALUE, -1, 14, 60, 61, Integer.MAX_VALUE}) {
            due("charAt " + p, x.charAt(p), -1);
            due("rowOf " + p, x.rowOf(p), -1);
            due("placeOf " + p, x.placeOf(p), -1);
        }
        SelfIndexImage full = loaded("0123456789".repeat(6), 11);
        due("charAt 59", full.charAt(59), '9');
        due("charAt 60", full.charAt(60), 0);
        due("charAt 61", full.charAt(61), -1);
        due("rowOf 61", full.rowOf(61), -1);
        due("placeOf 61", full.placeOf(61), -1);
    }

    private static void promise12RowOf() {
        // END, "a", "aa", "aba.."; the shorter of two that begin alike comes first.
        SelfIndexImage x = loaded("abaa", 4);
        int[] rows = {3, 4, 2, 1, 0};
        for (int p = 0; p <= 4; p++) {
            due("rowOf " + p + " of abaa", x.rowOf(p), rows[p]);
        }
        SelfIndexImage y = loaded("banana", 16);
        int[] more = {4, 3, 6, 2, 5, 1, 0};
        for (int p = 0; p <= 6; p++) {
            due("rowOf " + p + " of banana", y.rowOf(p), more[p]);
        }
    }

    private static void promise13PlaceOf() {
        SelfIndexImage x = loaded("abaa", 4);
        int[] places = {4, 3, 2, 0, 1};
        for (int r = 0; r <= 4; r++) {
            due("placeOf " + r + " of abaa", x.placeOf(r), places[r]);
        }
        SelfIndexImage y = loaded("banana", 16);
        int[] more = {6, 5, 3, 1, 0, 4, 2};
        for (int r = 0; r <= 6; r++) {
            due("placeOf " + r + " of banana", y.placeOf(r), more[r]);
        }
    }

    private static void promise14Ask() {
        SelfIndexImage x = loaded("~ " + "b".repeat(25), 2);
        for (int code : NO_CODES) {
            due("ask " + code, x.ask((char) code), false);
        }
        due("count of nothing asked", x.count(), 28);
        due("ask 126", x.ask((char) 126), true);
        due("ask 32", x.ask((char) 32), true);
        due("count", x.count(), 1);
        for (int code : NO_CODES) {
            due("ask " + code, x.ask((char) code), false);
        }
        for (int i = 2; i < 20; i++) {
            due("ask number " + i, x.ask('b'), true);
        }
        due("ask number 20", x.ask('b'), false);
        due("ask number 20, another", x.ask('c'), false);
        due("count of the longest", x.count(), 1);
        // Asking needs no loaded text, and loading leaves the pattern as it is.
        SelfIndexImage y = written("abcbc");
        askAll(y, "bc");
        y.build(2);
        due("count, none loaded", y.count(), -1);
        y.load();
        due("count of what was asked before", y.count(), 2);
    }

    private static void promise15Back() {
        SelfIndexImage x = loaded("abcabd", 3);
        due("back of nothing", x.back(), false);
        askAll(x, "abc");
        due("count abc", x.count(), 1);
        due("back", x.back(), true);
        due("count ab", x.count(), 2);
        askAll(x, "d");
        due("locate abd", x.locate(0), 3);
        due("back", x.back(), true);
        due("back", x.back(), true);
        due("back", x.back(), true);
        due("count of the empty one", x.count(), 7);
        due("back of nothing", x.back(), false);
        due("count of the empty one", x.count(), 7);
        for (int i = 0; i < 20; i++) {
            due("ask number " + i, x.ask('z'), true);
        }
        due("back of 20", x.back(), true);
        due("ask after it", x.ask('y'), true);
        due("ask beyond", x.ask('y'), false);
        for (int i = 0; i < 20; i++) {
            due("back number " + i, x.back(), true);
        }
        due("back of nothing", x.back(), false);
    }

    private static void duePattern(SelfIndexImage x, String pattern, int firstRow, int variety,
            int... places) {
        emptyPattern(x);
        askAll(x, pattern);
        due("count " + pattern, x.count(), places.length);
        due("firstRow " + pattern, x.firstRow(), firstRow);
        due("variety " + pattern, x.variety(), variety);
        for (int k = 0; k < places.length; k++) {
            due("locate " + k + " of " + pattern, x.locate(k), places[k]);
        }
        for (int k : new int[] {Integer.MIN_VALUE, -1, places.length, places.length + 1, 61,
            Integer.MAX_VALUE}) {
            due("locate " + k + " of " + pattern, x.locate(k), -1);
        }
    }

    private static void promise16Count() {
        SelfIndexImage x = loaded("aaaa", 3);
        duePattern(x, "", 0, 1, 0, 1, 2, 3, 4);
        duePattern(x, "a", 1, 1, 0, 1, 2, 3);
        duePattern(x, "aa", 2, 1, 0, 1, 2);
        duePattern(x, "aaaa", 4, 0, 0);
        duePattern(x, "aaaaa", -1, 0);
        duePattern(x, "b", -1, 0);
        duePattern(x, "aab", -1, 0);
        SelfIndexImage empty = loaded("", 9);
        duePattern(empty, "", 0, 0, 0);
        duePattern(empty, " ", -1, 0);
    }

    private static void promise17FirstRow() {
        SelfIndexImage x = loaded("banana", 2);
        duePattern(x, "", 0, 3, 0, 1, 2, 3, 4, 5, 6);
        duePattern(x, "a", 1, 2, 1, 3, 5);
        duePattern(x, "an", 2, 2, 1, 3);
        duePattern(x, "ana", 2, 2, 1, 3);
        duePattern(x, "anan", 3, 1, 1);
        duePattern(x, "b", 4, 0, 0);
        duePattern(x, "na", 5, 1, 2, 4);
        duePattern(x, "nana", 6, 1, 2);
        duePattern(x, "nab", -1, 0);
        duePattern(x, "banana", 4, 0, 0);
        duePattern(x, "bananas", -1, 0);
    }

    private static void promise18Locate() {
        // Places grow with k, though their rows fall.
        SelfIndexImage x = loaded("xcxbxa", 1);
        duePattern(x, "x", 4, 2, 0, 2, 4);
        duePattern(x, "xa", 4, 1, 4);
        duePattern(x, "xc", 6, 0, 0);
        SelfIndexImage full = loaded("ab".repeat(30), 7);
        int[] places = new int[21];
        for (int k = 0; k < 21; k++) {
            places[k] = 2 * k;
        }
        duePattern(full, "ab".repeat(10), 10, 1, places);
    }

    private static void promise19Variety() {
        SelfIndexImage x = loaded("xaya xaAa~a", 5);
        // Before an "a": x, y, x, A, ~.
        duePattern(x, "a", 3, 4, 1, 3, 6, 8, 10);
        duePattern(x, "xa", 8, 1, 0, 5);
        duePattern(x, "xay", 9, 0, 0);
        duePattern(x, "", 0, 6, 0, 1, 2, 3, 4, 5, 6, 7, 8, 9, 10, 11);
    }

    private static void promise19VarietyOfAllCodes() {
        for (int from = 32; from <= 97; from += 13) {
            StringBuilder text = new StringBuilder();
            for (int code = from; code < from + 30; code++) {
                text.append((char) code).append('"');
            }
            SelfIndexImage x = loaded(text.toString(), 6);
            askAll(x, "\"");
            due("variety from " + from, x.variety(), 30);
            x.back();
            boolean hasQuote = from <= 34;
            due("variety of all from " + from, x.variety(), hasQuote ? 30 : 31);
        }
    }
}
