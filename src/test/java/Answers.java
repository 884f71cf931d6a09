/** Compares answers with those that are due, prints each that differs, and ends the program. */
final class Answers {
    private static final int MOST_PRINTED = 50;

    private final String program;
    private int checked = 0;
    private int wrong = 0;

    Answers(String program) {
        this.program = program;
    }

    void due(String call, long got, long want) {
        checked++;
        if (got != want) {
            tell(call + " answered " + got + ", due is " + want);
        }
    }

    void due(String call, boolean got, boolean want) {
        due(call, got ? 1 : 0, want ? 1 : 0);
    }

    void dueAtMost(String what, long got, long most) {
        checked++;
        if (got > most) {
            tell(what + ": " + got + ", due is at most " + most);
        }
    }

    void dueText(String what, String got, String want) {
        checked++;
        if (!got.equals(want)) {
            tell(what + " is " + got + ", due is " + want);
        }
    }

    private void tell(String line) {
        wrong++;
        if (wrong <= MOST_PRINTED) {
            System.out.println(program + ": " + line);
        }
    }

    void end() {
        System.out.println(program + ": " + checked + " answers, " + wrong + " of them wrong");
        if (wrong != 0) {
            System.exit(1);
        }
    }
}
