import java.util.Random;

/**
 * Long runs of mixed calls, each answer compared with that of the naive house. The seeds are fixed,
 * so every run of this program makes the same calls.
 */
public final class RandomRunsTest {
    private static final Answers ANSWERS = new Answers("RandomRunsTest");
    private static final int MOST_CALLS = 512;
    private static final int RUNS = 600;

    private final Random random;
    private final SelfIndexImage x = new SelfIndexImage();
    private final NaiveHouse house = new NaiveHouse();
    private final int kinds;
    private final int least;
    private final String run;
    private int calls = 0;

    private RandomRunsTest(int seed) {
        random = new Random(seed);
        kinds = new int[] {1, 2, 3, 8, 95}[random.nextInt(5)];
        least = 32 + random.nextInt(96 - kinds);
        run = "run " + seed + ": ";
    }

    public static void main(String[] args) {
        for (int seed = 0; seed < RUNS; seed++) {
            new RandomRunsTest(seed).go();
        }
        ANSWERS.end();
    }

    private void go() {
        while (calls < MOST_CALLS - 420) {
            step();
        }
        watchAll();
        while (calls < MOST_CALLS) {
            step();
        }
    }

    private void step() {
        switch (random.nextInt(12)) {
            case 0, 1, 2:
                writeSome();
                break;
            case 3:
                buildAndLoad();
                break;
            case 4:
                spoil();
                break;
            case 5, 6:
                askSome();
                break;
            case 7:
                due("back", x.back(), house.back());
                break;
            default:
                watchOne();
        }
    }

    private void due(String call, long got, long want) {
        calls++;
        ANSWERS.due(run + call, got, want);
    }

    private void due(String call, boolean got, boolean want) {
        due(call, got ? 1 : 0, want ? 1 : 0);
    }

    private char someCharacter() {
        return random.nextInt(40) == 0 ? (char) random.nextInt(300)
                : (char) (least + random.nextInt(kinds));
    }

    /** Now and then a number from anywhere. */
    private int orAny(int number) {
        return random.nextInt(20) == 0 ? random.nextInt() : number;
    }

    private void writeSome() {
        if (random.nextInt(12) == 0) {
            x.erase();
            house.erase();
            calls++;
        }
        for (int i = random.nextInt(12); i >= 0 && calls < MOST_CALLS; i--) {
            char c = someCharacter();
            due("write " + (int) c, x.write(c), house.write(c));
        }
    }

    private void askSome() {
        for (int i = random.nextInt(3); i >= 0 && calls < MOST_CALLS; i--) {
            char c = someCharacter();
            due("ask " + (int) c, x.ask(c), house.ask(c));
        }
    }

    private void buildAndLoad() {
        int rate = orAny(random.nextInt(20) - 1);
        due("build " + rate, x.build(rate), house.build(rate));
        if (random.nextInt(4) != 0 && calls < MOST_CALLS) {
            due("load", x.load(), house.load());
        }
    }

    private void spoil() {
        int k = orAny(random.nextInt(25) - 1);
        int b = random.nextInt(10) == 0 ? orAny(random.nextInt(70) - 3) : random.nextInt(8);
        due("flip " + k + " " + b, x.flip(k, b), house.flip(k, b));
        if (calls < MOST_CALLS) {
            due("load", x.load(), house.load());
        }
        if (random.nextInt(2) == 0 && calls < MOST_CALLS) {
            due("flip back", x.flip(k, b), house.flip(k, b));
        } else if (random.nextInt(4) == 0 && calls < MOST_CALLS) {
            long v = random.nextInt(3) == 0 ? random.nextLong() : house.word(random.nextInt(23));
            due("put " + k + " " + v, x.put(k, v), house.put(k, v));
        }
    }

    private void watchOne() {
        int k = orAny(random.nextInt(64) - 2);
        switch (random.nextInt(10)) {
            case 0 -> due("length", x.length(), house.length());
            case 1 -> due("rate", x.rate(), house.rate());
            case 2 -> due("charAt " + k, x.charAt(k), house.charAt(k));
            case 3 -> due("rowOf " + k, x.rowOf(k), house.rowOf(k));
            case 4 -> due("placeOf " + k, x.placeOf(k), house.placeOf(k));
            case 5 -> due("count", x.count(), house.count());
            case 6 -> due("firstRow", x.firstRow(), house.firstRow());
            case 7 -> due("locate " + k / 8, x.locate(k / 8), house.locate(k / 8));
            case 8 -> due("variety", x.variety(), house.variety());
            default -> due("word " + k / 2, x.word(k / 2), house.word(k / 2));
        }
    }

    private void watchAll() {
        for (int k = -1; k <= 23; k++) {
            due("word " + k, x.word(k), house.word(k));
        }
        due("length", x.length(), house.length());
        due("rate", x.rate(), house.rate());
        due("count", x.count(), house.count());
        due("firstRow", x.firstRow(), house.firstRow());
        due("variety", x.variety(), house.variety());
        for (int p = -1; p <= 62; p++) {
            due("charAt " + p, x.charAt(p), house.charAt(p));
            due("rowOf " + p, x.rowOf(p), house.rowOf(p));
            due("placeOf " + p, x.placeOf(p), house.placeOf(p));
            due("locate " + p, x.locate(p), house.locate(p));
        }
    }
}
