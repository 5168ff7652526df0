import java.util.ArrayList;
import java.util.List;

/** All that an object can be asked, as one row of answers; the asking itself spoils the object. */
final class Portrait {
    private final CutCity x;
    private final List<String> questions = new ArrayList<>();
    private final List<Integer> answers = new ArrayList<>();

    private Portrait(CutCity x) {
        this.x = x;
    }

    static Portrait of(CutCity x) {
        Portrait p = new Portrait(x);
        p.counts();
        p.people();
        p.ties();
        p.laws();
        p.rooms();
        p.spoilt();
        p.future();
        p.past();
        return p;
    }

    /** The first question that another one answers otherwise; null: there is none. */
    String unlike(Portrait other) {
        for (int i = 0; i < answers.size() && i < other.answers.size(); i++) {
            if (!answers.get(i).equals(other.answers.get(i))) return questions.get(i) + " is " + answers.get(i) + ", was " + other.answers.get(i);
        }
        return answers.size() == other.answers.size() ? null : "more can be asked";
    }

    private int add(String question, int answer) {
        questions.add(question);
        answers.add(answer);
        return answer;
    }

    private void counts() {
        for (int i = 0; i < 15; i++) add("count " + i, x.count(i));
    }

    private void people() {
        int all = answers.get(1);
        for (int i = 0; i < all; i++) {
            if (i >= 5 && i < all - 1) continue;
            for (int what = 1; what < 8; what++) add("is " + i + " " + what, x.is(i, what));
        }
        for (int i = 1; i < 3; i++) add("kinship 0 " + i, x.kinship(0, i));
    }

    private void ties() {
        int all = answers.get(4);
        for (int i = 0; i < all; i++) {
            if (i >= 12 && i < all - 1) continue;
            for (int what = 2; what < 10; what++) add("told " + i + " " + what, x.told(i, what));
        }
        for (int i = 0; i < 4; i++) add("train to " + i, x.train(2, 50, i, 0));
    }

    private void laws() {
        int all = answers.get(6);
        for (int i = 0; i < all; i++) add("struck " + i, x.of(i, 3));
        for (int what = 0; what < 5; what++) add("of the last " + what, x.of(all - 1, what));
        for (int side = 0; side < 2; side++) {
            for (int key = 0; key < 5; key++) add("counts " + side + key, x.counts(side, key));
        }
    }

    private void rooms() {
        for (int sides = 1; sides < 4; sides++) add("flow " + sides, x.flow(sides));
        for (int gate = 0; gate < 8; gate++) add("waiting at " + gate, x.waiting(1 << gate));
        add("waiting at all", x.waiting(255));
        for (int i = 0; i < 6; i++) add("pairing " + i, x.pairing(i));
        for (int n = 1; n < 15; n += 4) add("plan " + n, x.plan(n, 20000));
        add("planned", x.planned(13, 1));
        for (int side = 0; side < 2; side++) {
            for (int day = 0; day < 6; day++) add("read " + side + " " + day, x.read(side, day));
        }
        for (int day = 0; day < 5; day++) add("owed " + day, x.owed(day));
    }

    /** What can be asked only by putting something else in its place, or by using it up. */
    private void spoilt() {
        for (int side = 0; side < 2; side++) add("wrong " + side, x.wrong(side, CutCity.NONE));
        for (int what = 0; what < 2; what++) add("rule " + what, x.rule(what, 0));
        for (int gate = 0; gate < 4; gate += 3) {
            for (int hour = 0; hour < 13; hour += 6) add("feast " + gate + " " + hour, x.feast(gate, hour, 0));
        }
        int cells = answers.get(0);
        for (int i = 0; i < cells; i++) {
            if (i >= 4 && i < cells - 1) continue;
            for (int what = 0; what < 2; what++) add("water " + i + " " + what, x.water(i, what, 0));
        }
        add("the tape", x.text(0, 0));
        add("of it", x.of(x.count(6) - 1, 4));
        x.rule(1, 5);
        add("numbers", x.check(0, 13));
        add("the image", x.check(1, 1));
    }

    private void future() {
        int all = answers.get(1);
        add("run", x.run(4));
        for (int i = 0; i < 5 && i < all; i++) {
            add("then in " + i, x.is(i, 3));
            for (int what = 6; what < 8; what++) add("then is " + i + " " + what, x.is(i, what));
        }
        for (int what : new int[] {3, 5, 7, 8}) add("then count " + what, x.count(what));
        add("run", x.run(20));
        for (int what : new int[] {3, 5, 7, 8}) add("a day later count " + what, x.count(what));
    }

    private void past() {
        add("back", x.back());
        for (int i = 0; i < 15; i++) if (i != 10 && i != 11) add("back there count " + i, x.count(i));
        for (int i = 0; i < 3; i++) add("back there in " + i, x.is(i, 3));
        add("back there run", x.run(1));
        add("back there wait", x.count(3));
    }
}
