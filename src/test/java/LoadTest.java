import java.util.Arrays;
import java.util.HashMap;
import java.util.HashSet;
import java.util.Map;
import java.util.Random;
import java.util.Set;

/** Promise 8 from all sides: which words are the image of a text, and of which. */
public final class LoadTest {
    private static final Answers ANSWERS = new Answers("LoadTest");
    private static final int MOST_CALLS = 512;

    private SelfIndexImage x = new SelfIndexImage();
    private int calls = 0;

    private LoadTest() {
    }

    public static void main(String[] args) {
        LoadTest test = new LoadTest();
        test.shortTextsAgainstAllImages();
        test.everySingleFlip();
        test.everyPairOfLevelFlips();
        test.columnsOfFewCharacters();
        test.fromOneTextToAnother();
        test.imagesButForALimit();
        ANSWERS.end();
    }

    /** A fresh object from time to time, as nothing is promised after 512 calls. */
    private void make(int callsToCome) {
        if (calls + callsToCome > MOST_CALLS) {
            x = new SelfIndexImage();
            calls = 0;
        }
        calls += callsToCome;
    }

    private void dueLoad(long[] words, String text) {
        make(24 + 64);
        for (int k = 0; k < words.length; k++) {
            x.put(k, words[k]);
        }
        int earlier = x.length();
        ANSWERS.due("load of " + Arrays.toString(words), x.load(), text != null);
        ANSWERS.due("length after it", x.length(), text == null ? earlier : text.length());
        if (text != null) {
            ANSWERS.due("rate", x.rate(), words[0] / 256);
            for (int p = 0; p < text.length(); p++) {
                ANSWERS.due("charAt " + p + " of " + text, x.charAt(p), text.charAt(p));
            }
        }
    }

    /** Without any reading back: the words are looked up among the images of all short texts. */
    private void shortTextsAgainstAllImages() {
        Map<String, String> images = new HashMap<>();
        addImages(images, "");
        for (char a = 32; a <= 126; a++) {
            addImages(images, "" + a);
            for (char b = 32; b <= 126; b++) {
                addImages(images, "" + a + b);
            }
        }
        Random random = new Random(1);
        String[] texts = {"", " ", "~", "@", "a", "ab", "ba", "aa", "~ ", " ~", "@`", "?@"};
        for (int i = 0; i < 20000; i++) {
            long[] words = NaiveImage.of(texts[random.nextInt(texts.length)], 1 + random.nextInt(3));
            int flips = random.nextInt(4);
            for (int f = 0; f < flips; f++) {
                words[1 + random.nextInt(7)] ^= 1L << random.nextInt(3);
            }
            if (random.nextInt(8) == 0) {
                words[random.nextInt(23)] ^= 1L << random.nextInt(13);
            }
            dueLoad(words, images.get(Arrays.toString(words)));
        }
        for (int n = 0; n <= 2; n++) {
            levelsAtRandom(images, n);
        }
    }

    private static void addImages(Map<String, String> images, String text) {
        for (int rate = 1; rate <= 16; rate++) {
            images.put(Arrays.toString(NaiveImage.of(text, rate)), text);
        }
    }

    private void levelsAtRandom(Map<String, String> images, int n) {
        Random random = new Random(n);
        String[] texts = {"", "a", "ab", "ba", "aa"};
        for (int i = 0; i < 4000; i++) {
            long[] words = NaiveImage.of(texts[random.nextInt(texts.length)], 1);
            words[0] = n + 256;
            for (int k = 1; k <= 7; k++) {
                words[k] = random.nextInt(1 << (n + 1));
            }
            dueLoad(words, images.get(Arrays.toString(words)));
        }
    }

    private void everySingleFlip() {
        String[] texts = {"", "q", "abab", "mississippi", "a".repeat(60),
            "to be or not to be, that is the question: to sleep, to dream"};
        for (String text : texts) {
            for (int rate : new int[] {1, 4, 16}) {
                for (int bit = 0; bit < 23 * 64; bit++) {
                    long[] words = NaiveImage.of(text, rate);
                    words[bit / 64] ^= 1L << (bit % 64);
                    dueLoad(words, NaiveImage.textOf(words));
                }
            }
        }
    }

    private void everyPairOfLevelFlips() {
        for (String text : new String[] {"aba", "cab", "bbb"}) {
            for (int one = 0; one < 7 * 5; one++) {
                for (int other = 0; other < one; other++) {
                    long[] words = NaiveImage.of(text, 2);
                    words[1 + one / 5] ^= 1L << (one % 5);
                    words[1 + other / 5] ^= 1L << (other % 5);
                    dueLoad(words, NaiveImage.textOf(words));
                }
            }
        }
    }

    /**
     * Every column of END, a and b with seven rows. For each, the levels are right, and the rest is
     * that of some text with this column, if there is one; else that of any text of this length.
     */
    private void columnsOfFewCharacters() {
        Map<String, String> textOfLevels = new HashMap<>();
        for (int number = 0; number < 64; number++) {
            StringBuilder text = new StringBuilder();
            for (int p = 0; p < 6; p++) {
                text.append((number >> p & 1) == 0 ? 'a' : 'b');
            }
            textOfLevels.put(levelsOf(NaiveImage.of(text.toString(), 2)), text.toString());
        }
        Set<String> loadedTexts = new HashSet<>();
        for (int number = 0; number < 2187; number++) {
            int[] codes = new int[7];
            int left = number;
            for (int r = 0; r < 7; r++) {
                codes[r] = left % 3 == 0 ? 0 : 96 + left % 3;
                left /= 3;
            }
            long[] words = withLevels(codes, NaiveImage.of("aabbab", 2));
            String text = textOfLevels.get(levelsOf(words));
            if (text != null) {
                words = NaiveImage.of(text, 2);
                loadedTexts.add(text);
            }
            dueLoad(words, text);
        }
        ANSWERS.due("texts of six characters", loadedTexts.size(), 64);
    }

    private static String levelsOf(long[] words) {
        return Arrays.toString(Arrays.copyOfRange(words, 1, 8));
    }

    private static long[] withLevels(int[] codes, long[] words) {
        int[] order = codes.clone();
        for (int j = 0; j < 7; j++) {
            words[1 + j] = 0;
            int[] parted = new int[order.length];
            int filled = 0;
            for (int bit = 0; bit <= 1; bit++) {
                for (int i = 0; i < order.length; i++) {
                    if ((order[i] >> (6 - j) & 1) == bit) {
                        words[1 + j] |= (long) bit << i;
                        parted[filled++] = order[i];
                    }
                }
            }
            order = parted;
        }
        return words;
    }

    /** Two images mixed word by word are rarely an image; the last mix is the other one whole. */
    private void fromOneTextToAnother() {
        Random random = new Random(7);
        for (int i = 0; i < 200; i++) {
            String from = randomText(random);
            String to = randomText(random);
            long[] words = NaiveImage.of(from, 1 + random.nextInt(16));
            long[] goal = NaiveImage.of(to, 1 + random.nextInt(16));
            for (int k = 0; k < 23; k++) {
                words[k] = goal[k];
                dueLoad(words, NaiveImage.textOf(words));
            }
            ANSWERS.due("loaded at last", x.length(), to.length());
        }
    }

    /** Words that are drawn by the rules, but of what is no text or at what is no rate. */
    private void imagesButForALimit() {
        for (String text : new String[] {"", "a", "hello", "x".repeat(60)}) {
            for (int rate = 17; rate <= 70; rate++) {
                dueLoad(NaiveImage.of(text, rate), null);
            }
            long[] words = NaiveImage.of(text, 1);
            words[0] = text.length();
            dueLoad(words, null);
        }
        for (int code = 0; code <= 127; code++) {
            for (String like : new String[] {"?", "?ab", "a?b", "ab?", "?a?"}) {
                String text = like.replace('?', (char) code);
                boolean isText = code >= 32 && code <= 126;
                dueLoad(NaiveImage.of(text, 2), isText ? text : null);
            }
        }
        for (int rate = 1; rate <= 16; rate++) {
            dueLoad(NaiveImage.of("y".repeat(60), rate), "y".repeat(60));
            dueLoad(NaiveImage.of("y".repeat(61), rate), null);
            dueLoad(NaiveImage.of("y".repeat(62), rate), null);
        }
    }

    private static String randomText(Random random) {
        int size = random.nextInt(61);
        int kinds = 1 + random.nextInt(95);
        StringBuilder text = new StringBuilder();
        for (int p = 0; p < size; p++) {
            text.append((char) (126 - random.nextInt(kinds)));
        }
        return text.toString();
    }
}
