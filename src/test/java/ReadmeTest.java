/** The example of README.md, call by call. */
public final class ReadmeTest {
    private static final Answers ANSWERS = new Answers("ReadmeTest");

    private ReadmeTest() {
    }

    public static void main(String[] args) {
        SelfIndexImage x = new SelfIndexImage();
        for (char c : "abracadabra".toCharArray()) {
            ANSWERS.due("write " + c, x.write(c), true);
        }
        ANSWERS.due("build", x.build(4), true);
        ANSWERS.due("word 0", x.word(0), 1035);
        ANSWERS.due("load", x.load(), true);
        ANSWERS.due("charAt 6", x.charAt(6), 100);
        ANSWERS.due("placeOf 1", x.placeOf(1), 10);
        ANSWERS.due("ask a", x.ask('a'), true);
        ANSWERS.due("count", x.count(), 5);
        ANSWERS.due("locate 1", x.locate(1), 3);
        ANSWERS.due("variety", x.variety(), 3);
        ANSWERS.due("flip", x.flip(3, 4), true);
        ANSWERS.due("load of what is spoilt", x.load(), false);
        ANSWERS.due("length", x.length(), 11);
        ANSWERS.end();
    }
}
