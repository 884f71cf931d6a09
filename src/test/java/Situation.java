import java.util.Arrays;
import java.util.function.Predicate;

/** States in which a call is tried. */
enum Situation {
    NEW {
        @Override
        Twins make() {
            return new Twins();
        }
    },
    /** An image lies on the desk, ready to be loaded; nothing is loaded. */
    READY {
        @Override
        Twins make() {
            return new Twins().write("abracadabra").build(3).ask("ra");
        }
    },
    /** All four things are there, and each is another one. */
    ORDINARY {
        @Override
        Twins make() {
            return new Twins().write("banana").build(2).load()
                    .erase().write("a cat").build(16)
                    .erase().write("Z").put(22, Long.MIN_VALUE).ask("an");
        }
    },
    /** The loaded text and the pattern are empty, the desk is not. */
    EMPTY_TEXT_LOADED {
        @Override
        Twins make() {
            return new Twins().build(16).load().write("x").build(1);
        }
    },
    /** No character, and no bit, more has room. */
    FULL {
        @Override
        Twins make() {
            long[] ones = new long[NaiveImage.WORDS];
            Arrays.fill(ones, -1);
            return new Twins().write("ab".repeat(30)).build(1).load()
                    .erase().write(" ~".repeat(30)).putAll(ones).ask("ab".repeat(10));
        }
    };

    abstract Twins make();

    /** A refused call answers false and changes nothing; so the house is not told of it. */
    void dueRefused(Answers answers, String call, Predicate<SelfIndexImage> refused) {
        Twins twins = make();
        String what = call + " (" + this + ")";
        answers.due(what, refused.test(twins.x), false);
        twins.dueSame(answers, "after " + what);
    }

    static void dueRefusedInAll(Answers answers, String call, Predicate<SelfIndexImage> refused) {
        for (Situation situation : values()) {
            situation.dueRefused(answers, call, refused);
        }
    }
}
