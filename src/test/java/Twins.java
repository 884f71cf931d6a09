/**
 * An object and the naive house, brought into the same state by the same calls.
 *
 * <p>An object is good for 512 calls: the fullest state takes 166 calls to make, and dueSame 334.
 */
final class Twins {
    final SelfIndexImage x = new SelfIndexImage();
    final NaiveHouse house = new NaiveHouse();

    Twins write(String text) {
        for (char c : text.toCharArray()) {
            x.write(c);
            house.write(c);
        }
        return this;
    }

    Twins erase() {
        x.erase();
        house.erase();
        return this;
    }

    Twins build(int rate) {
        x.build(rate);
        house.build(rate);
        return this;
    }

    Twins put(int k, long v) {
        x.put(k, v);
        house.put(k, v);
        return this;
    }

    Twins putAll(long[] words) {
        for (int k = 0; k < words.length; k++) {
            put(k, words[k]);
        }
        return this;
    }

    Twins load() {
        x.load();
        house.load();
        return this;
    }

    Twins ask(String text) {
        for (char c : text.toCharArray()) {
            x.ask(c);
            house.ask(c);
        }
        return this;
    }

    /** Compares the whole state, what can only be seen by changing it too: the object is used up. */
    void dueSame(Answers answers, String what) {
        dueSeen(answers, what);
        dueWritten(answers, what);
        duePattern(answers, what);
    }

    /** Compares all that can be asked without a change. */
    void dueSeen(Answers answers, String what) {
        dueWords(answers, what);
        answers.due(what + ": length", x.length(), house.length());
        answers.due(what + ": rate", x.rate(), house.rate());
        answers.due(what + ": count", x.count(), house.count());
        answers.due(what + ": firstRow", x.firstRow(), house.firstRow());
        answers.due(what + ": variety", x.variety(), house.variety());
        for (int p = -1; p <= house.length() + 1; p++) {
            answers.due(what + ": charAt " + p, x.charAt(p), house.charAt(p));
            answers.due(what + ": rowOf " + p, x.rowOf(p), house.rowOf(p));
            answers.due(what + ": placeOf " + p, x.placeOf(p), house.placeOf(p));
        }
        for (int k = -1; k <= house.count(); k++) {
            answers.due(what + ": locate " + k, x.locate(k), house.locate(k));
        }
    }

    private void dueWords(Answers answers, String what) {
        for (int k = -1; k <= NaiveImage.WORDS; k++) {
            answers.due(what + ": word " + k, x.word(k), house.word(k));
        }
    }

    /** No two texts have the same image. */
    private void dueWritten(Answers answers, String what) {
        build(1);
        dueWords(answers, what + ": the text being written");
    }

    /** A pattern that occurs in the due one and is as long is the due one. */
    private void duePattern(Answers answers, String what) {
        String pattern = house.pattern();
        erase().write(pattern).build(1).load();
        answers.due(what + ": length of the pattern as a text", x.length(), pattern.length());
        answers.due(what + ": the pattern in itself", x.count(), 1);
        for (int i = 0; i < pattern.length(); i++) {
            answers.due(what + ": back number " + i, x.back(), true);
        }
        answers.due(what + ": back of nothing", x.back(), false);
    }
}
