/** A town with something of all kinds, so that a refused call would have something to spoil. */
final class Town {
    static final int CELLS = 4, PERSONS = 5, TIES = 12, TEXTS = 8;
    /** Persons: at home on side 0 and 1, one who waits, one who is abroad, one who is dead. */
    static final int ANNA = 0, WAITS = 1, PAUL = 2, ABROAD = 3, DEAD = 4;
    static final int PLAIN = 0, STREET = 1, LINE = 2, PIPE = 3, WIRE = 4, KIN = 5;
    static final int USED = 6, PASS = 7, PARCEL = 8, TAKEN = 9, ASKED = 10, CUT = 11;
    static final int CROSS = 0, CROSS_OF_1 = 1, CARRY = 2, CARRY_OF_1 = 3, HALT = 4, HOUSE = 5, PAY = 6, STRUCK = 7;

    private Town() {
    }

    /** A text of twelve bytes at most; blanks behind it are no fault. The tape is empty ahead of it. */
    static int law(CutCity x, int side, int day, String word) {
        tape(x, word);
        return x.text(side, day);
    }

    /** Feeds a word with blanks behind it, up to twelve bytes or a multiple of them: how many the tape has. */
    static int tape(CutCity x, String word) {
        int size = x.count(11);
        StringBuilder b = new StringBuilder(word);
        while (b.length() % 12 != 0 || b.length() == 0) b.append(' ');
        for (int i = 0; i < b.length(); i += 12) {
            size = x.feed(Feeder.four(b.toString(), i), Feeder.four(b.toString(), i + 4), Feeder.four(b.toString(), i + 8));
        }
        return size;
    }

    /** The hour is 1, the day 0; 100 calls. */
    static void lay(CutCity x) {
        begin(x);
        x.keep();
        goOn(x);
    }

    /** The same without an image. */
    static void layUnkept(CutCity x) {
        begin(x);
        goOn(x);
    }

    private static void begin(CutCity x) {
        people(x);
        laws(x);
        ties(x);
        news(x);
    }

    private static void goOn(CutCity x) {
        rooms(x);
        x.be(WAITS, 1, 41);
        x.strike(STRUCK);
        x.gate(STREET, 5, 9);
        x.gate(CUT, 22, 2);
        x.tell(0);
        x.tell(4);
        x.tell(1);
        x.feed(Feeder.four("pay ", 0), Feeder.four("n+1 ", 0), Feeder.four("-n  ", 0));
    }

    private static void people(CutCity x) {
        for (int i = 0; i < CELLS; i++) x.cell(i & 1);
        x.water(0, 0, 40);
        x.water(1, 0, 50);
        x.water(0, 1, 60);
        x.water(2, 1, 30);
        for (int i = 0; i < 4; i++) x.person(i, 30 + 10 * i, i);
        x.person(0, 70, 1);
    }

    private static void laws(CutCity x) {
        law(x, 0, 0, "cross a<90");
        law(x, 1, 0, "cross 1");
        law(x, 0, 0, "carry w<50");
        law(x, 1, 0, "carry 1");
        law(x, 0, 0, "halt i<2");
        law(x, 1, 0, "house d-f");
        law(x, 0, 0, "pay n*2");
        law(x, 1, 3, "cross p");
    }

    private static void ties(CutCity x) {
        int[] c = {0, 1, 0, 25, 10, 3};
        for (int kind = 0; kind < 6; kind++) x.tie(kind, 0, 1, c[kind]);
        x.pass(ABROAD, PAUL, 9, 1);
        x.pass(ANNA, WAITS, 2, 5);
        x.parcel(PASS, 20, 3);
        x.pass(PAUL, ABROAD, 2, 0);
        x.pass(WAITS, ANNA, 2, 5);
        x.tie(1, 2, 3, 0);
        x.stop(LINE, 0, 5);
        x.stop(LINE, 1, 10);
        x.stop(LINE, 2, 20);
    }

    private static void news(CutCity x) {
        x.ask(USED, STREET);
        x.run(1);
        x.die(DEAD);
        x.letter(0, 3);
        x.letter(1, 2);
        x.take(TAKEN);
        x.ask(ASKED, STREET);
        x.call(WIRE, 3, 30);
        x.call(WIRE, 1, 5);
    }

    private static void rooms(CutCity x) {
        x.wrong(0, 3);
        x.rule(0, 20);
        x.rule(1, 5);
        x.feast(0, 0, 9);
        x.feast(3, 5, 7);
        x.feast(0, 12, 2);
        x.feast(3, 12, 1);
        x.clause(5, -3, 4);
        x.clause(-4, 6, 9);
        x.clause(0, 0, 1);
        x.meter(0, 0, 4);
        x.put(0, 0, 100);
        x.put(0, 2, -7);
        x.meter(1, 1, 5);
        x.put(1, 0, CutCity.NONE);
        x.put(1, 1, 110);
        x.put(1, 2, CutCity.NONE);
        x.file(0, 1234, 30);
        x.file(0, 2000, 40);
        x.file(1, 1243, 31);
        x.file(1, 1234, 30);
    }
}
