/** Promises 55 to 59: rows that are checked, images, counts. */
public final class ImageTest {
    private static final int BAD = CutCity.BAD, NO = CutCity.NO, FULL = CutCity.FULL, NONE = CutCity.NONE, NOTHING = CutCity.NOTHING;
    private static final Due due = new Due("ImageTest");

    public static void main(String[] args) {
        tells();
        orderRows();
        dayRows();
        keeps();
        keepsAll();
        whatIsNotKept();
        lateImages();
        counts();
        due.end();
    }

    private static int checked(CutCity x, int what, int n, int... numbers) {
        for (int v : numbers) x.tell(v);
        return x.check(what, n);
    }

    private static void tells() {
        CutCity x = new CutCity();
        for (int i = 1; i <= 60; i++) due.is("55: tell", x.tell(-i), i);
        due.is("55: full", x.tell(0), FULL);
        due.is("59: numbers", x.count(10), 60);
        due.is("56: what", x.check(-1, 1), BAD);
        due.is("56: none wait then", x.count(10), 0);
        for (int[] bad : new int[][] {{2, 1}, {0, 0}, {0, 1000}, {1, 0}, {1, 25}}) {
            due.is("56: bad", checked(x, bad[0], bad[1], 1, 2), BAD);
            due.is("56: none wait then", x.count(10), 0);
        }
        due.is("56: no order", checked(x, 0, 1, 1, 2), NO);
        due.is("56: none wait then", x.count(10), 0);
        due.is("56: no image", checked(x, 1, 1, 1, 2), NO);
        due.is("56: none wait then", x.count(10), 0);
        due.is("56: bad ahead of no", checked(x, 1, 25), BAD);
    }

    private static void orderRows() {
        CutCity x = new CutCity();
        x.clause(0, -1, 50);
        x.clause(0, 1, 3);
        x.clause(5, 0, 4);
        due.is("56: all as they are", checked(x, 0, 53, 1, 3, 0, 53), 0);
        due.is("56: none wait then", x.count(10), 0);
        due.is("56: none", checked(x, 0, 53), 1);
        due.is("56: missing", checked(x, 0, 53, 1, 3, 0), 4);
        due.is("56: the first is not", checked(x, 0, 53, 0, 3, 0, 53), 1);
        due.is("56: the second is not", checked(x, 0, 53, 1, 4, 0, 53), 2);
        due.is("56: the third is not, nor the last", checked(x, 0, 53, 1, 3, 2, 7), 3);
        due.is("56: the last is not", checked(x, 0, 53, 1, 3, 0, 50), 4);
        due.is("56: one too many", checked(x, 0, 53, 1, 3, 0, 53, 0), 5);
        due.is("56: many too many", checked(x, 0, 53, 1, 3, 0, 53, 2, 57), 5);
        due.is("56: a long one", checked(x, 0, 57, 1, 3, 0, 53, 2, 57), 0);
        due.is("56: there is none", checked(x, 0, 58, 1, 3), NO);
        due.is("56: n", checked(x, 0, 999, 1, 3), NO);
    }

    /** Side 0 has persons 0, 2, side 1 person 1; all may cross; a street lets one by. */
    private static CutCity city() {
        CutCity x = new CutCity();
        x.cell(0);
        x.cell(1);
        for (int i = 0; i < 3; i++) x.person(i & 1, 40, 1);
        x.tie(1, 0, 1, 1);
        for (int side = 0; side < 2; side++) Due.law(x, side, 0, "cross 1");
        return x;
    }

    private static void dayRows() {
        CutCity x = city();
        x.ask(x.pass(0, 1, 2, 0), 0);
        x.ask(x.pass(2, 1, 2, 0), 0);
        x.ask(x.pass(1, 0, 1, 0), 0);
        x.keep();
        int[] five = {2, 1, 1, 2, 0, 2, 0, 0, 0, 0};
        due.is("56: five hours", checked(x, 1, 5, five), 0);
        due.is("56: again", checked(x, 1, 5, five), 0);
        due.is("56: nothing changed", x.count(12), 0);
        due.is("56: nothing changed", x.count(3), 3);
        due.is("56: not", checked(x, 1, 2, 2, 1, 1, 1), 4);
        due.is("56: missing", checked(x, 1, 2, 2, 1, 1), 4);
        due.is("56: too many", checked(x, 1, 2, five), 5);
        x.run(20);
        x.die(0);
        due.is("56: from the image on", checked(x, 1, 5, five), 0);
        x.keep();
        due.is("56: from another image on", checked(x, 1, 1, 0, 0), 0);
        CutCity y = city();
        y.ask(y.pass(0, 1, 99, 0), 0);
        y.run(1);
        y.die(0);
        y.keep();
        due.is("56: the dead are not abroad", checked(y, 1, 1, 0, 0), 0);
        int[] day = new int[48];
        due.is("56: 24 hours", checked(y, 1, 24, day), 0);
        day[47] = 1;
        due.is("56: the last of 24 hours", checked(y, 1, 24, day), 48);
    }

    private static void keeps() {
        CutCity x = city();
        due.is("58: no image", x.back(), NO);
        x.run(7);
        due.is("57: keep", x.keep(), 7);
        x.run(9);
        x.person(0, 1, 1);
        due.is("58: back", x.back(), 7);
        due.is("58: as it was", x.count(1), 3);
        x.die(0);
        x.run(1);
        due.is("58: again and again", x.back(), 7);
        due.is("58: as it was", x.is(0, 5), 0);
        x.run(3);
        due.is("57: another", x.keep(), 10);
        x.run(3);
        due.is("58: as the later one", x.back(), 10);
    }

    private static void keepsAll() {
        CutCity x = city();
        int wire = x.tie(4, 0, 1, 10);
        int line = x.tie(2, 0, 1, 0);
        int pipe = x.tie(3, 0, 1, 10);
        x.stop(line, 0, 5);
        int pass = x.pass(0, 1, 2, 0);
        x.call(wire, 3, 30);
        x.die(2);
        x.letter(0, 3);
        x.water(0, 1, 5);
        x.water(1, 0, 9);
        x.wrong(0, 4);
        x.rule(0, 50);
        x.rule(1, 60);
        x.feast(3, 3, 3);
        x.feast(3, 12, 2);
        x.clause(1, 2, 3);
        x.file(0, 1234, 5);
        x.file(1, 1234, 5);
        x.gate(0, 3, 4);
        x.ask(pass, 0);
        x.keep();
        for (int round = 0; round < 2; round++) {
            x.take(pass);
            x.run(40);
            x.be(0, 1, 99);
            x.be(0, 2, 3);
            x.water(0, 1, 1);
            x.water(1, 0, 1);
            x.wrong(0, NONE);
            x.wrong(1, 3);
            x.rule(0, 1);
            x.rule(1, 1);
            x.feast(3, 3, 9);
            x.feast(3, 12, 9);
            x.clause(0, 0, 0);
            x.file(0, 1, 1);
            x.file(1, 1, 1);
            x.gate(0, 9, 9);
            x.stop(line, 0, 5);
            x.change(pipe, 99);
            x.strike(0);
            Due.law(x, 0, 0, "cross 0");
            x.cell(0);
            x.die(0);
            x.letter(0, 9);
            x.call(wire, 1, 1);
            x.back();
            int[] counts = {2, 3, 1, 1, 5, 1, 2, 1, 1, 1, 0, 0, 0, 1, 1};
            for (int i = 0; i < counts.length; i++) due.is("58: count " + i, x.count(i), counts[i]);
            due.is("58: age", x.is(0, 1), 40);
            due.is("58: papers", x.is(0, 2), 1);
            due.is("58: waits", x.is(0, 4), 0);
            due.is("58: waits", x.told(0, 9), 1);
            due.is("58: pass", x.told(pass, 6), 0);
            due.is("58: calls", x.told(wire, 9), 1);
            due.is("58: gate", x.told(0, 4), 3);
            due.is("58: pipe", x.told(pipe, 3), 10);
            due.is("58: known", x.is(2, 6), 1);
            due.is("58: not known", x.is(2, 7), 0);
            due.is("58: struck", x.of(0, 3), NONE);
            due.is("58: counts", x.counts(0, 0), 0);
            due.is("58: source", x.flow(2), 5);
            due.is("58: use", x.lack(1), 4);
            due.is("58: no second stop", x.train(line, 0, 1, 0), NONE);
            due.is("58: feast", x.waiting(8), 1);
            due.is("58: false from", x.wrong(0, 4), 4);
            due.is("58: false from", x.wrong(1, NONE), NONE);
            due.is("58: bound", x.rule(0, 50), 50);
            due.is("58: debt", x.rule(1, 60), 60);
            due.is("58: plan", x.plan(3, 1), 1);
            due.is("58: pairing", x.pairing(0), 1);
            due.is("58: files", x.alike(1, 0), BAD);
            x.run(4);
            due.is("58: the letter comes", x.is(2, 7), 1);
            due.is("58: the call is over", x.told(wire, 9), 0);
            due.is("58: let by at 3", x.is(0, 3), 1);
        }
    }

    private static void whatIsNotKept() {
        CutCity x = city();
        x.meter(0, 0, 2);
        x.put(0, 1, 5);
        x.tell(8);
        x.feed(1, 2, 3);
        x.keep();
        x.put(0, 1, 6);
        x.meter(1, 0, 1);
        x.tell(9);
        x.trim(3);
        x.back();
        due.is("57: meters stay", x.read(0, 1), 6);
        due.is("57: meters stay", x.read(1, 0), 0);
        due.is("57: numbers stay", x.count(10), 2);
        due.is("57: the tape stays", x.count(11), 3);
        x.meter(1, -1, 0);
        x.back();
        due.is("57: meters stay", x.read(1, 0), NOTHING);
    }

    /** Rows go on from an image behind the last hour that can be open. */
    private static void lateImages() {
        CutCity x = city();
        for (int i = 0; i < 99; i++) x.run(100);
        x.run(99);
        int pass = x.pass(0, 1, 50, 416416);
        x.ask(pass, 0);
        x.change(0, 0);
        x.keep();
        int[] rows = new int[48];
        for (int i = 0; i < 9; i++) rows[2 * i] = 1;
        due.is("56: the pass is over with day 416", checked(x, 1, 24, rows), 0);
        due.is("58: back", x.back(), 9999);
    }

    private static void counts() {
        CutCity x = city();
        due.is("59: what", x.count(-1), BAD);
        due.is("59: what", x.count(15), BAD);
        x.ask(x.pass(0, 1, 1, 0), 0);
        x.take(x.pass(1, 0, 1, 0));
        x.letter(1, 9);
        x.letter(0, 9);
        x.call(x.tie(4, 0, 1, 1), 1, 9);
        x.clause(0, 0, 0);
        x.tell(1);
        x.feed(0, 0, 0);
        x.file(1, 1, 1);
        x.file(1, 1, 1);
        x.die(1);
        int[] want = {2, 3, 1, 1, 4, 1, 2, 2, 1, 1, 1, 12, 0, 0, 2};
        for (int i = 0; i < want.length; i++) due.is("59: count " + i, x.count(i), want[i]);
    }
}
