/** Holds answers against those that are due, and counts the wrong ones. */
final class Due {
    interface Act {
        void act();
    }

    static final Class<?> ARGUMENT = IllegalArgumentException.class;
    static final Class<?> STATE = IllegalStateException.class;

    private final String test;
    private String sentence = "";
    private int calls;
    private int callsBefore;
    private int wrong;

    Due(String test) {
        this.test = test;
    }

    /** The answers from now on are those that a sentence of the document asks for. */
    void of(String next) {
        endSentence();
        sentence = next;
        callsBefore = calls;
    }

    private void endSentence() {
        if (!sentence.isEmpty() && calls == callsBefore) {
            tell("no answer was looked at");
        }
    }

    void is(String what, long want, long got) {
        calls++;
        if (got != want) {
            tell(what + " answered " + got + ", due is " + want);
        }
    }

    void is(String what, boolean want, boolean got) {
        is(what, want ? 1 : 0, got ? 1 : 0);
    }

    void refuses(String what, Class<?> want, Act call) {
        calls++;
        String got = "nothing";
        try {
            call.act();
        } catch (RuntimeException e) {
            got = e.getClass().getName();
        }
        if (!got.equals(want.getName())) {
            tell(what + " threw " + got + ", due is " + want.getName());
        }
    }

    void tell(String text) {
        wrong++;
        if (wrong <= 50) {
            System.out.println(test + ": " + (sentence.isEmpty() ? "" : "\"" + sentence + "\": ") + text);
        }
    }

    int wrongSoFar() {
        return wrong;
    }

    void end() {
        endSentence();
        System.out.println(test + ": " + calls + " answers looked at, " + wrong + " wrong");
        if (wrong != 0 || calls == 0) {
            System.exit(1);
        }
    }
}
