/**
 * Both sides of an edge, each asked of a town of its own: the last call that is taken, the first that is refused.
 * Who refuses has changed nothing: all that can be asked then is answered as in a town that was not asked.
 */
final class Edges {
    interface Scene {
        void lay(CutCity x);
    }

    interface Act {
        int on(CutCity x);
    }

    interface Of {
        int on(CutCity x, int v);
    }

    private final Due due;
    private final Scene scene;
    private final Portrait[] spared = new Portrait[Portrait.PARTS];

    Edges(Due due, Scene scene) {
        this.due = due;
        this.scene = scene;
    }

    private CutCity town() {
        CutCity x = new CutCity();
        scene.lay(x);
        return x;
    }

    void taken(String what, int want, Act act) {
        due.is(what + " is taken", act.on(town()), want);
    }

    /** What is asked behind a call. */
    void then(String what, int want, Act first, Act asked) {
        CutCity x = town();
        first.on(x);
        due.is(what, asked.on(x), want);
    }

    void refused(String what, int want, Act act) {
        for (int part = 0; part < Portrait.PARTS; part++) {
            if (spared[part] == null) spared[part] = Portrait.of(town(), part);
            refused(what, want, act, part, spared[part]);
        }
    }

    /** A refusal that changes something all the same, and what that is. */
    void refused(String what, int want, Act act, Scene butFor) {
        for (int part = 0; part < Portrait.PARTS; part++) {
            CutCity other = town();
            butFor.lay(other);
            refused(what, want, act, part, Portrait.of(other, part));
        }
    }

    private void refused(String what, int want, Act act, int part, Portrait before) {
        CutCity x = town();
        due.is(what + " is refused", act.on(x), want);
        String unlike = Portrait.of(x, part).unlike(before);
        due.that(what + " has changed nothing, but " + unlike, unlike == null);
    }

    /** Two ways to one town: all that can be asked is answered as well behind the one as behind the other. */
    static void same(Due due, String what, Scene one, Scene other) {
        for (int part = 0; part < Portrait.PARTS; part++) {
            CutCity x = new CutCity(), y = new CutCity();
            one.lay(x);
            other.lay(y);
            String unlike = Portrait.of(x, part).unlike(Portrait.of(y, part));
            due.that(what + ", but " + unlike, unlike == null);
        }
    }

    /** All from least to most is taken; what stands beside them, and far off, is refused. */
    void range(String what, int least, int most, int want, int refusal, Of of) {
        range(what, least, want, most, want, refusal, of);
    }

    void range(String what, int least, int wantLeast, int most, int wantMost, int refusal, Of of) {
        taken(what + " " + least, wantLeast, x -> of.on(x, least));
        taken(what + " " + most, wantMost, x -> of.on(x, most));
        for (int v : new int[] {least - 1, most + 1, Integer.MIN_VALUE, Integer.MAX_VALUE}) {
            refused(what + " " + v, refusal, x -> of.on(x, v));
        }
    }
}
