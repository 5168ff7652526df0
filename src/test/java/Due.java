/** Counts answers that are not the ones that are due; each test ends with it. */
final class Due {
    private final String test;
    private int asked = 0;
    private int wrong = 0;

    Due(String test) {
        this.test = test;
    }

    void is(String call, int got, int want) {
        asked++;
        if (got == want) return;
        wrong++;
        if (wrong <= 40) System.out.println(test + ": " + call + " answered " + got + ", due is " + want);
    }

    void that(String what, boolean holds) {
        is(what, holds ? 1 : 0, 1);
    }

    void end() {
        System.out.println(test + ": " + asked + " asked, " + wrong + " wrong");
        if (wrong != 0) System.exit(1);
    }

    /** Puts the bytes of a word on the tape: how many the tape has. */
    static int feed(CutCity x, String word) {
        return Feeder.feed(word, x::feed, x::trim, x.count(11));
    }

    /** A text from a word: its number, or why it is none. */
    static int law(CutCity x, int side, int day, String word) {
        feed(x, word);
        return x.text(side, day);
    }
}
