import java.util.ArrayList;
import java.util.List;

/**
 * All that an object can be asked, as rows of answers, in parts, each of an object of its own; the asking spoils it.
 * What may be refused is asked last, and once more the other way round, so that all else is asked ahead of each
 * refusal: one that changes something would hide that others of its sort did.
 */
final class Portrait {
    static final int PARTS = 3;

    private final CutCity x;
    private final List<String> questions = new ArrayList<>();
    private final List<Integer> answers = new ArrayList<>();

    private Portrait(CutCity x) {
        this.x = x;
    }

    static Portrait of(CutCity x, int part) {
        Portrait p = new Portrait(x);
        if (part == 0) p.lives();
        if (part == 1) p.stands();
        for (int i = 0; i < 5 && part > 0; i++) p.refusing(part == 1 ? i : 4 - i);
        return p;
    }

    /** The first question that another one answers otherwise; null: there is none. */
    String unlike(Portrait other) {
        for (int i = 0; i < answers.size() && i < other.answers.size(); i++) {
            if (!answers.get(i).equals(other.answers.get(i))) return questions.get(i) + " is " + answers.get(i) + ", was " + other.answers.get(i);
        }
        return answers.size() == other.answers.size() ? null : "more can be asked";
    }

    private int add(String question, int answer) {
        questions.add(question);
        answers.add(answer);
        return answer;
    }

    /** Who lives where, what ties there are, and how hours go by. */
    private void lives() {
        int persons = add("count 1", x.count(1));
        int ties = add("count 4", x.count(4));
        people(persons);
        ties(ties);
        letters();
        calls(ties);
        future(persons, ties);
        past();
    }

    private void people(int all) {
        for (int i = 0; i < all; i++) {
            if (i >= 5 && i < all - 1) continue;
            for (int what = 0; what < 8; what++) add("is " + i + " " + what, x.is(i, what));
        }
        for (int i = 1; i < 3 && i < all; i++) add("kinship 0 " + i, x.kinship(0, i));
    }

    private void ties(int all) {
        for (int i = 0; i < all; i++) {
            if (i >= 12 && i < all - 1) continue;
            for (int what = 2; what < 10; what++) add("told " + i + " " + what, x.told(i, what));
        }
    }

    /** No calls go by till letters have come. */
    private void letters() {
        x.change(Town.WIRE, 0);
        for (int i = 0; i < 4; i++) {
            add("run", x.run(1));
            add("letters", x.count(7));
            for (int what = 6; what < 8; what++) add("is the dead one " + what, x.is(Town.DEAD, what));
        }
    }

    private void calls(int ties) {
        if (ties <= Town.WIRE) return;
        for (int minutes : new int[] {29, 1, 4, 1}) {
            x.change(Town.WIRE, minutes);
            add("run", x.run(1));
            add("calls behind " + minutes, x.told(Town.WIRE, 9));
        }
        add("run", x.run(1));
    }

    private void future(int persons, int ties) {
        for (int i = 0; i < 5 && i < persons; i++) {
            add("then in " + i, x.is(i, 3));
            for (int what = 6; what < 8; what++) add("then is " + i + " " + what, x.is(i, what));
        }
        for (int tie = Town.PASS; tie <= Town.ASKED && tie < ties; tie += 3) add("then state " + tie, x.told(tie, 6));
        for (int what : new int[] {3, 5}) add("then count " + what, x.count(what));
        add("run", x.run(20));
        for (int what : new int[] {3, 5, 7, 8, 12}) add("a day later count " + what, x.count(what));
    }

    private void past() {
        add("back", x.back());
        for (int i = 0; i < 15; i++) if (i != 10 && i != 11) add("back there count " + i, x.count(i));
        for (int i = 0; i < 3; i++) add("back there in " + i, x.is(i, 3));
        add("back there run", x.run(1));
        add("back there wait", x.count(3));
    }

    /** Laws, water, feasts, rows. */
    private void stands() {
        for (int i = 0; i < 15; i++) add("count " + i, x.count(i));
        laws(answers.get(6));
        for (int sides = 1; sides < 4; sides++) add("flow " + sides, x.flow(sides));
        feast();
        add("numbers", x.check(0, 13));
        add("the image", x.check(1, 1));
        cells(answers.get(0));
        for (int i = 0; i < answers.get(13) + 2; i++) add("pairing " + i, x.pairing(i));
        for (int side = 0; side < 2; side++) add("wrong " + side, x.wrong(side, CutCity.NONE));
        add("bound", x.rule(0, 0));
    }

    private void refusing(int i) {
        switch (i) {
            case 0: trains(); break;
            case 1: clauses(); break;
            case 2: theTape(); break;
            case 3: meters(); break;
            default: files();
        }
    }

    private void laws(int all) {
        for (int i = 0; i < all; i++) add("struck " + i, x.of(i, 3));
        for (int what = 0; what < 5 && all > 0; what++) add("of the last " + what, x.of(all - 1, what));
        for (int side = 0; side < 2; side++) {
            for (int key = 0; key < 5; key++) add("counts " + side + key, x.counts(side, key));
        }
    }

    private void trains() {
        for (int i : new int[] {0, 1, 2, 3, 7, 8}) add("train to " + i, x.train(Town.LINE, 50, i, 0));
    }

    private void feast() {
        for (int gate = 0; gate < 8; gate++) add("waiting at " + gate, x.waiting(1 << gate));
        add("waiting at all", x.waiting(255));
        for (int gate = 0; gate < 4; gate += 3) {
            for (int hour = 0; hour < 13; hour += 6) add("feast " + gate + " " + hour, x.feast(gate, hour, 0));
        }
    }

    private void clauses() {
        for (int n : new int[] {4, 5, 9, 10}) add("planned " + n, x.planned(n, 0));
        for (int n : new int[] {13, 14, 15}) add("plan " + n, x.plan(n, 20000));
        add("debt", x.rule(1, 0));
        for (int debt = 5; debt > 1; debt--) {
            x.rule(1, debt);
            add("planned with " + debt, x.planned(4, 0));
        }
    }

    private void theTape() {
        int text = add("the tape", x.text(0, 0));
        if (text < 0) return;
        add("its parts", x.of(text, 4));
        for (int day = 0; day < 3; day += 2) add("by it " + day, x.coin(0, day));
    }

    /** Uses of which each sum tells whose they are. */
    private void cells(int all) {
        for (int i = 0; i < all; i++) {
            if (i >= 4 && i < all - 1) continue;
            add("source " + i, x.water(i, 1, 0));
            add("use " + i, x.water(i, 0, 1 << Math.min(i, 9)));
        }
        for (int side = 0; side < 2; side++) add("cells of " + side, x.lack(side));
    }

    private void meters() {
        for (int side = 0; side < 2; side++) {
            for (int day = 5; day >= 0; day--) add("read " + side + " " + day, x.read(side, day));
        }
        for (int day = 4; day >= 0; day--) add("owed " + day, x.owed(day));
    }

    /** Files that are alike those of the town, if none of these is another one, or older, or younger. */
    private void files() {
        int[][] names = {{1234, 2000}, {1234, 1243}}, ages = {{30, 40}, {30, 31}};
        for (int side = 0; side < 2; side++) {
            for (int i = 0; i < 4; i++) {
                int other = x.file(1 - side, names[side][i / 2], ages[side][i / 2] + 2 * (i % 2) - 1);
                int own = side == 0 ? i / 2 : 1 - i / 2;
                add("alike " + side + " " + i, side == 0 ? x.alike(own, other) : x.alike(other, own));
            }
        }
    }
}
