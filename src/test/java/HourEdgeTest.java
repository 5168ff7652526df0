/** The edges of promises 15 to 21, and of how an hour goes by, each on both sides. */
public final class HourEdgeTest {
    private static final int BAD = CutCity.BAD, NO = CutCity.NO, FULL = CutCity.FULL, NONE = CutCity.NONE;
    private static final int MIN = Integer.MIN_VALUE, MAX = Integer.MAX_VALUE;
    private static final int[] NO_PASS = {Town.PLAIN, Town.STREET, Town.LINE, Town.PIPE, Town.WIRE, Town.KIN, Town.PARCEL, Town.CUT, 12, 40, -1, MIN, MAX};
    private static final Due due = new Due("HourEdgeTest");
    private static final Edges town = new Edges(due, Town::lay);

    public static void main(String[] args) {
        kinship();
        kinSums();
        take();
        why();
        whyFirst();
        whyDays();
        whyLaws();
        ask();
        letter();
        lettersDue();
        call();
        callMinutes();
        run();
        clocks();
        streets();
        stays();
        lastDays();
        insideEnds();
        due.end();
    }

    private static Edges with(Edges.Scene more) {
        return new Edges(due, x -> {
            Town.lay(x);
            more.lay(x);
        });
    }

    private static void kinship() {
        town.range("15: one", 0, 3, 4, 0, BAD, (x, v) -> x.kinship(v, 1));
        town.range("15: the other", 0, 3, 4, 0, BAD, (x, v) -> x.kinship(1, v));
        for (int i = 0; i < 5; i++) {
            int one = i;
            town.refused("15: they are one", BAD, x -> x.kinship(one, one));
        }
    }

    private static void kinSums() {
        for (int v : new int[] {1, 8, 9}) town.then("15: DEGREE " + v, v, x -> x.change(Town.KIN, v), x -> x.kinship(0, 1));
        town.then("15: 3 and 6", 9, x -> x.tie(5, 1, 2, 6), x -> x.kinship(0, 2));
        town.then("15: 3 and 6, from the other", 9, x -> x.tie(5, 1, 2, 6), x -> x.kinship(2, 0));
        town.then("15: 3 and 7", 0, x -> x.tie(5, 1, 2, 7), x -> x.kinship(0, 2));
        town.then("15: 3 and 7, from the other", 0, x -> x.tie(5, 1, 2, 7), x -> x.kinship(2, 0));
        town.then("15: the least", 2, x -> x.tie(5, 1, 0, 2), x -> x.kinship(0, 1));
        town.then("15: not the least", 3, x -> x.tie(5, 1, 0, 4), x -> x.kinship(0, 1));
        town.taken("15: by a PASS none", 0, x -> x.kinship(Town.PAUL, Town.ABROAD));
        town.then("15: by a PASS of 1 and its PARCEL none", 3, x -> x.parcel(x.pass(0, 1, 1, 0), 1, 1), x -> x.kinship(0, 1));
        with(x -> x.tie(5, 2, 3, 9)).then("15: 9 and 1", 0, x -> x.tie(5, 3, 4, 1), x -> x.kinship(2, 4));
        with(x -> x.tie(5, 2, Town.DEAD, 4)).then("15: over the dead", 9, x -> x.tie(5, Town.DEAD, 3, 5), x -> x.kinship(2, 3));
        Edges row = new Edges(due, x -> {
            x.cell(0);
            for (int i = 0; i < 20; i++) x.person(0, 1, 1);
            for (int i = 19; i > 0; i--) x.tie(5, i, i - 1, 1);
        });
        for (int i = 1; i < 20; i++) {
            int last = i;
            row.taken("15: a row of " + i, i > 9 ? 0 : i, x -> x.kinship(0, last));
            row.taken("15: a row of " + i, i > 9 ? 0 : i, x -> x.kinship(last, 0));
        }
    }

    private static void take() {
        town.taken("16: OPEN", 1, x -> x.take(Town.PASS));
        town.taken("16: of one who WAITS", 1, x -> x.take(Town.ASKED));
        for (int v : NO_PASS) town.refused("16: no PASS " + v, BAD, x -> x.take(v));
        town.refused("16: USED", NO, x -> x.take(Town.USED));
        town.refused("16: TAKEN BACK", NO, x -> x.take(Town.TAKEN));
        with(x -> x.run(9)).refused("16: OVER, as it ended", NO, x -> x.take(Town.USED));
        with(x -> x.take(Town.PASS)).refused("16: again", NO, x -> x.take(Town.PASS));
        Edges late = with(x -> { for (int i = 0; i < 2; i++) x.run(72); });
        late.refused("16: OVER, as its DAYS are", NO, x -> x.take(Town.PASS));
        town.then("16: its state", 3, x -> x.take(Town.ASKED), x -> x.told(Town.ASKED, 6));
        town.then("16: at HOME", 1, x -> x.take(Town.ASKED), x -> x.is(Town.WAITS, 3));
        town.then("16: WAITS no more", NONE, x -> x.take(Town.ASKED), x -> x.is(Town.WAITS, 4));
        town.then("16: at the STREET none", 0, x -> x.take(Town.ASKED), x -> x.told(Town.STREET, 9));
    }

    private static void why() {
        town.taken("17: it can", 0, x -> x.why(Town.PASS));
        town.taken("17: WAITS", 1, x -> x.why(Town.ASKED));
        town.taken("17: on the other SIDE", 1, x -> x.why(Town.USED));
        town.then("17: DEAD", 1, x -> x.die(Town.ANNA), x -> x.why(Town.PASS));
        town.taken("17: not OPEN", 2, x -> x.why(Town.TAKEN));
        with(x -> x.run(9)).taken("17: OVER", 2, x -> x.why(Town.USED));
        for (int v : NO_PASS) town.refused("17: no PASS " + v, BAD, x -> x.why(v));
    }

    /** Of two reasons the first one is told. */
    private static void whyFirst() {
        town.then("17: 1 ahead of 2", 1, x -> x.die(Town.PAUL), x -> x.why(Town.TAKEN));
        with(x -> x.run(24)).taken("17: 2 ahead of 3", 2, x -> x.why(Town.TAKEN));
        with(x -> x.be(Town.ANNA, 1, 99)).then("17: 2 ahead of 4", 2, x -> x.take(Town.PASS), x -> x.why(Town.PASS));
        with(x -> x.be(Town.ANNA, 1, 99)).taken("17: 3 ahead of 4", 3, x -> x.why(x.pass(Town.ANNA, Town.WAITS, 1, 1001)));
        with(x -> Town.law(clear(x), 1, 0, "cross 0")).then("17: 4 ahead of 5", 4, x -> x.be(Town.ANNA, 1, 99), x -> x.why(Town.PASS));
        with(x -> Town.law(clear(x), 1, 0, "cross 0")).taken("17: 5", 5, x -> x.why(Town.PASS));
        with(x -> Town.law(clear(x), 1, 0, "cross 0")).taken("17: 3 ahead of 5", 3, x -> x.why(x.pass(Town.ANNA, Town.WAITS, 1, 1001)));
    }

    private static CutCity clear(CutCity x) {
        x.trim(0);
        return x;
    }

    /** A pass for days 2 and 3, hour by hour. */
    private static void whyDays() {
        int[][] want = {{0, 3}, {47, 3}, {48, 0}, {71, 0}, {72, 0}, {95, 0}, {96, 3}, {97, 2}};
        for (int[] w : want) {
            CutCity x = walled();
            int pass = x.pass(0, 1, 1, 2003);
            if (w[0] > 0) x.run(w[0]);
            due.is("17: days 2, 3 in hour " + w[0], x.why(pass), w[1]);
        }
        for (int day = 0; day < 3; day++) {
            CutCity x = walled();
            int pass = x.pass(0, 1, 1, 1001);
            if (day > 0) x.run(24 * day);
            due.is("17: one day, on day " + day, x.why(pass), day == 1 ? 0 : 3);
        }
    }

    /** Cells 0, 1, each of its side; persons 0, 1 at home there; both sides let all cross. */
    private static CutCity walled() {
        CutCity x = new CutCity();
        for (int i = 0; i < 2; i++) {
            x.cell(i);
            x.person(i, 40, 1);
            Town.law(x, i, 0, "cross 1");
        }
        return x;
    }

    private static void whyLaws() {
        town.then("17: AGE 89 of a<90", 0, x -> x.be(0, 1, 89), x -> x.why(Town.PASS));
        town.then("17: AGE 90 of a<90", 4, x -> x.be(0, 1, 90), x -> x.why(Town.PASS));
        town.then("17: WEIGHT 49 of w<50", 0, x -> x.parcel(Town.PASS, 49, 0), x -> x.why(Town.PASS));
        town.then("17: WEIGHT 50 of w<50", 4, x -> x.parcel(Town.PASS, 50, 0), x -> x.why(Town.PASS));
        town.then("17: of another PASS", 0, x -> x.parcel(Town.ASKED, 50, 0), x -> x.why(Town.PASS));
        String[] words = {"cross 0-1", "cross 1-1", "cross 9999"};
        int[] why = {0, 5, 0};
        for (int i = 0; i < 3; i++) {
            String word = words[i];
            town.then("17: " + word, why[i], x -> Town.law(clear(x), 1, 0, word), x -> x.why(Town.PASS));
        }
        with(x -> x.strike(Town.CROSS)).taken("17: struck tomorrow", 0, x -> x.why(Town.PASS));
        with(x -> x.strike(Town.CROSS)).then("17: without a TEXT", 4, x -> x.run(23), x -> x.why(Town.PASS));
        with(x -> x.strike(Town.CARRY_OF_1)).then("17: a PARCEL without a TEXT", 5, x -> x.run(23), x -> x.why(Town.PASS));
        with(x -> x.strike(Town.CARRY_OF_1)).then("17: no PARCEL, without a TEXT", 0, x -> x.run(23), x -> x.why(x.pass(0, 1, 1, 1)));
        CutCity x = walled();
        int pass = x.pass(0, 1, 1, 0);
        Town.law(x, 0, 0, "carry 1");
        Town.law(x, 1, 0, "carry 0");
        due.is("17: no parcels", x.why(pass), 0);
        x.parcel(pass, 1, 0);
        due.is("17: one that side 1 does not let", x.why(pass), 5);
        CutCity y = walled();
        due.is("17: the first tie is its parcel's pass", y.pass(0, 1, 1, 0), 0);
        y.parcel(0, 1, 0);
        due.is("17: without texts of carry", y.why(0), 4);
    }

    private static void ask() {
        town.taken("18: where one WAITS", 2, x -> x.ask(Town.PASS, Town.STREET));
        town.taken("18: where none does", 1, x -> x.ask(Town.PASS, Town.CUT));
        for (int v : NO_PASS) town.refused("18: no PASS " + v, BAD, x -> x.ask(v, Town.STREET));
        for (int v = -1; v < 13; v++) {
            int street = v;
            if (v == Town.STREET || v == Town.CUT) continue;
            town.refused("18: no STREET " + v, BAD, x -> x.ask(Town.PASS, street));
            town.refused("18: BAD ahead of NO", BAD, x -> x.ask(Town.TAKEN, street));
        }
        for (int v : new int[] {40, MIN, MAX}) town.refused("18: no STREET " + v, BAD, x -> x.ask(Town.PASS, v));
        for (int v : new int[] {Town.USED, Town.TAKEN, Town.ASKED}) town.refused("18: WHY is not 0 of " + v, NO, x -> x.ask(v, Town.CUT));
        with(x -> x.be(Town.ANNA, 1, 90)).refused("18: SIDE 0 does not let it", NO, x -> x.ask(Town.PASS, Town.STREET));
        with(x -> x.parcel(Town.PASS, 50, 0)).refused("18: nor the PARCEL", NO, x -> x.ask(Town.PASS, Town.STREET));
        with(x -> Town.law(clear(x), 1, 0, "cross 0")).refused("18: SIDE 1 does not", NO, x -> x.ask(Town.PASS, Town.STREET));
        with(x -> x.pass(0, 1, 1, 1001)).refused("18: not its DAY", NO, x -> x.ask(12, Town.STREET));
        with(x -> x.ask(Town.PASS, Town.CUT)).refused("18: it WAITS", NO, x -> x.ask(Town.PASS, Town.STREET));
        with(x -> x.die(Town.ANNA)).refused("18: DEAD", NO, x -> x.ask(Town.PASS, Town.STREET));
        town.then("18: in no CELL", NONE, x -> x.ask(Town.PASS, Town.CUT), x -> x.is(Town.ANNA, 3));
        town.then("18: at that STREET", Town.CUT, x -> x.ask(Town.PASS, Town.CUT), x -> x.is(Town.ANNA, 4));
        town.then("18: still OPEN", 0, x -> x.ask(Town.PASS, Town.CUT), x -> x.told(Town.PASS, 6));
        CutCity x = new CutCity();
        for (int i = 0; i < 2; i++) {
            x.cell(i);
            Town.law(x, i, 0, "cross 1");
        }
        for (int i = 0; i < 20; i++) x.person(i & 1, 1, 1);
        x.tie(1, 0, 1, 9);
        for (int i = 0; i < 20; i++) due.is("18: all twenty wait", x.ask(x.pass(i, 1 - (i & 1), 1, 0), 0), i + 1);
        due.is("18: all twenty wait", x.count(3), 20);
        for (int i = 1; i < 4; i++) {
            x.run(1);
            due.is("21: nine by nine", x.count(3), Math.max(0, 20 - 9 * i));
        }
    }

    private static void letter() {
        town.range("19: SIDE", 0, 1, 3, BAD, (x, v) -> x.letter(v, 1));
        town.range("19: n", 1, 99, 3, BAD, (x, v) -> x.letter(0, v));
        Edges almost = with(x -> { for (int i = 2; i < 19; i++) x.letter(i & 1, 9); });
        almost.taken("19: the 20th", 20, x -> x.letter(0, 99));
        Edges full = with(x -> { for (int i = 2; i < 20; i++) x.letter(i & 1, 9); });
        full.refused("19: the 21st", FULL, x -> x.letter(0, 1));
        full.refused("19: the 21st", FULL, x -> x.letter(1, 99));
        full.refused("19: BAD ahead of FULL, side", BAD, x -> x.letter(2, 1));
        full.refused("19: BAD ahead of FULL, n", BAD, x -> x.letter(0, 100));
        full.then("19: none has come yet", FULL, x -> x.run(2), x -> x.letter(0, 1));
        full.then("19: one has come", 20, x -> x.run(3), x -> x.letter(0, 1));
    }

    /** Letter by letter, by the hours that have gone by: the dead one is known from the due hour's end on. */
    private static void lettersDue() {
        for (int n : new int[] {1, 2, 50, 98, 99}) {
            CutCity x = new CutCity();
            x.cell(0);
            x.person(0, 1, 1);
            x.die(0);
            x.run(1);
            x.letter(0, n);
            x.run(n);
            due.is("19: due in " + n + ", on its way", x.count(7), 1);
            due.is("19: due in " + n + ", not known", x.is(0, 7), 0);
            x.run(1);
            due.is("19: due in " + n + ", has come", x.count(7), 0);
            due.is("19: due in " + n + ", known", x.is(0, 7), 1);
        }
        CutCity x = new CutCity();
        x.cell(0);
        x.person(0, 1, 1);
        x.letter(0, 1);
        x.die(0);
        x.run(2);
        due.is("19: who died as it was on its way", x.is(0, 7), 0);
        x.letter(1, 1);
        x.letter(0, 1);
        x.run(2);
        due.is("19: who died ahead of it", x.is(0, 7), 1);
    }

    private static void call() {
        for (int v : new int[] {Town.PLAIN, Town.STREET, Town.LINE, Town.PIPE, Town.KIN, Town.PASS, Town.PARCEL, 12, 40, -1, MIN, MAX}) {
            town.refused("20: no WIRE " + v, BAD, x -> x.call(v, 1, 1));
        }
        town.range("20: RANK", 0, 9, 3, BAD, (x, v) -> x.call(Town.WIRE, v, 1));
        town.range("20: MINUTES", 1, 99, 3, BAD, (x, v) -> x.call(Town.WIRE, 1, v));
        town.taken("20: another WIRE", 1, x -> x.call(x.tie(4, 2, 3, 60), 1, 1));
        Edges.Scene calls = x -> {
            x.tie(4, 0, 2, 0);
            for (int i = 2; i < 19; i++) x.call(i < 9 ? Town.WIRE : 12, 0, 9);
        };
        with(calls).taken("20: the 20th, of ten for that one", 10, x -> x.call(Town.WIRE, 1, 1));
        with(calls).taken("20: the 20th, of eleven for that one", 11, x -> x.call(12, 1, 1));
        Edges full = with(x -> {
            calls.lay(x);
            x.call(12, 0, 1);
        });
        full.refused("20: the 21st", FULL, x -> x.call(Town.WIRE, 1, 1));
        full.refused("20: the 21st", FULL, x -> x.call(12, 9, 99));
        full.refused("20: BAD ahead of FULL, wire", BAD, x -> x.call(Town.PIPE, 1, 1));
        full.refused("20: BAD ahead of FULL, rank", BAD, x -> x.call(12, 10, 1));
        full.refused("20: BAD ahead of FULL, minutes", BAD, x -> x.call(12, 1, 100));
        full.then("20: none is over yet", FULL, x -> x.run(2), x -> x.call(Town.WIRE, 1, 1));
        full.then("20: one is over", 9, x -> x.run(3), x -> x.call(Town.WIRE, 1, 1));
    }

    /** How many calls of some minutes wait behind one hour of a wire. */
    private static void callsLeft(int c, int want, int... minutes) {
        CutCity x = walled();
        int wire = x.tie(4, 0, 1, c);
        x.die(0);
        for (int m : minutes) x.call(wire, 5, m);
        x.run(1);
        due.is("20: " + c + " MINUTES an hour for " + java.util.Arrays.toString(minutes), x.told(wire, 9), want);
        due.is("20: and news", x.is(0, 7), want < minutes.length ? 1 : 0);
    }

    private static void callMinutes() {
        callsLeft(60, 0, 60);
        callsLeft(60, 1, 61);
        callsLeft(60, 0, 59, 1);
        callsLeft(60, 1, 59, 2);
        callsLeft(60, 1, 60, 1);
        callsLeft(0, 1, 1);
        callsLeft(1, 0, 1);
        callsLeft(1, 1, 2);
        callsLeft(1, 1, 1, 1);
        callsLeft(60, 0, 20, 20, 20);
        callsLeft(60, 1, 20, 20, 21);
        for (int c : new int[] {49, 50, 98, 99}) {
            CutCity x = walled();
            int wire = x.tie(4, 0, 1, Math.min(60, c));
            x.call(wire, 0, c);
            x.run(1);
            due.is("20: a call of " + c, x.told(wire, 9), c > 60 ? 1 : 0);
            x.run(1);
            due.is("20: a call of " + c, x.told(wire, 9), 0);
        }
        CutCity x = walled();
        int wire = x.tie(4, 0, 1, 33);
        x.call(wire, 0, 99);
        x.call(wire, 0, 1);
        x.run(2);
        due.is("20: 99 in three hours", x.told(wire, 9), 2);
        x.run(1);
        due.is("20: 99 in three hours, and none are left", x.told(wire, 9), 1);
        x.run(1);
        due.is("20: then the next", x.told(wire, 9), 0);
        ranks();
    }

    /** Of a wire of one minute an hour the call of one minute comes first whose rank is higher, or that was told first. */
    private static void ranks() {
        for (int rank = 0; rank < 10; rank++) {
            for (int other = 0; other < 10; other += 3) {
                CutCity x = walled();
                int wire = x.tie(4, 0, 1, 1);
                x.call(wire, rank, 2);
                x.call(wire, other, 1);
                x.run(1);
                due.is("20: RANKS " + rank + ", " + other, x.told(wire, 9), other > rank ? 1 : 2);
            }
        }
    }

    private static void run() {
        town.range("21: n", 1, 2, 100, 101, BAD, (x, v) -> x.run(v));
        town.refused("21: n below", BAD, x -> x.run(-100));
        town.then("21: the HOUR", 101, x -> x.run(100), x -> x.count(12));
        Edges late = with(x -> {
            for (int i = 0; i < 98; i++) x.run(100);
            x.run(98);
        });
        late.taken("21: to 9999", 9999, x -> x.run(100));
        late.then("21: to 9999 by 1", 9999, x -> x.run(99), x -> x.run(1));
        late.then("21: not to 10000", FULL, x -> x.run(1), x -> x.run(100));
        Edges later = with(x -> {
            for (int i = 0; i < 98; i++) x.run(100);
            x.run(94);
        });
        later.taken("21: the HOUR is 9895", 9895, x -> x.count(12));
        for (int n : new int[] {1, 99, 100}) later.taken("21: by " + n, 9895 + n, x -> x.run(n));
        Edges full = with(x -> {
            for (int i = 0; i < 99; i++) x.run(100);
            x.letter(0, 3);
            x.call(Town.WIRE, 3, 30);
            x.call(Town.WIRE, 1, 5);
            x.pass(Town.WAITS, Town.ANNA, 2, 412416);
            x.ask(12, Town.STREET);
        });
        full.taken("21: the HOUR is 9901", 9901, x -> x.count(12));
        full.refused("21: above 9999", FULL, x -> x.run(99));
        full.refused("21: above 9999", FULL, x -> x.run(100));
        full.taken("21: to 9999", 9999, x -> x.run(98));
        full.refused("21: BAD ahead of FULL", BAD, x -> x.run(101));
        full.refused("21: BAD", BAD, x -> x.run(0));
        Edges last = with(x -> {
            for (int i = 0; i < 99; i++) x.run(100);
            x.run(98);
        });
        last.refused("21: above 9999 by 1", FULL, x -> x.run(1));
        last.refused("21: above 9999 by 100", FULL, x -> x.run(100));
        last.refused("21: BAD ahead of FULL", BAD, x -> x.run(0));
        last.then("24: in force on DAY 416", 8, x -> x.text(0, 416), x -> x.counts(0, 4));
        last.then("26: struck from DAY 417 on", 417, x -> x.strike(Town.PAY), x -> x.of(Town.PAY, 3));
    }

    /** Who asks as some hours have gone by has crossed behind the next one, if the gate is open at its clock. */
    private static void crosses(int from, int to, int hour, boolean open) {
        CutCity x = walled();
        int street = x.tie(1, 0, 1, 1);
        x.gate(street, from, to);
        if (hour > 0) x.run(hour);
        x.ask(x.pass(0, 1, 9, 9), street);
        x.run(1);
        due.is("14: gate " + from + " .. " + to + " in hour " + hour, x.is(0, 3), open ? 1 : NONE);
    }

    private static void clocks() {
        int[][] gates = {{0, 0}, {23, 23}, {0, 23}, {23, 0}, {22, 21}, {1, 23}, {0, 22}, {12, 12}, {12, 11}, {11, 12}, {22, 2}, {2, 22}};
        for (int[] g : gates) {
            for (int hour = 0; hour < 49; hour++) {
                int clock = hour % 24;
                boolean open = g[0] <= g[1] ? clock >= g[0] && clock <= g[1] : clock >= g[0] || clock <= g[1];
                crosses(g[0], g[1], hour, open);
            }
        }
        crosses(4, 4, 99, false);
        crosses(3, 3, 99, true);
    }

    /** Ten wait at a street: so many are over behind one hour, those who came first. */
    private static void streets() {
        for (int c = 0; c < 10; c++) {
            CutCity x = new CutCity();
            for (int i = 0; i < 2; i++) {
                x.cell(i);
                Town.law(x, i, 0, "cross 1");
            }
            for (int i = 0; i < 11; i++) x.person(i / 10, 1, 1);
            int street = x.tie(1, 0, 1, c);
            for (int i = 9; i >= 0; i--) x.ask(x.pass(i, 10, 99, 0), street);
            x.run(1);
            due.is("21: " + c + " are let by", x.told(street, 9), 10 - c);
            for (int i = 0; i < 10; i++) due.is("21: " + c + " are let by, " + i, x.is(i, 3), 9 - i < c ? 1 : NONE);
        }
    }

    /** Who crosses in hour 3 is abroad behind all hours ahead of 3 and the stay, at home behind that one. */
    private static void stays() {
        for (int stay : new int[] {1, 2, 50, 98, 99}) {
            CutCity x = walled();
            x.run(3);
            int street = x.tie(1, 0, 1, 1);
            int pass = x.pass(0, 1, stay, 9);
            x.ask(pass, street);
            x.run(stay);
            due.is("21: STAY " + stay + ", abroad", x.is(0, 3), 1);
            due.is("21: STAY " + stay + ", USED", x.told(pass, 6), 1);
            x.run(1);
            due.is("21: STAY " + stay + ", at HOME", x.is(0, 3), 0);
            due.is("21: STAY " + stay + ", OVER", x.told(pass, 6), 2);
        }
    }

    /** A pass is open till the first hour behind its last day has gone by; who waits with it then is at home. */
    private static void lastDays() {
        for (int last = 0; last < 3; last++) {
            CutCity x = walled();
            int street = x.tie(1, 0, 1, 0);
            int pass = x.pass(0, 1, 9, last);
            x.ask(pass, street);
            x.run(24 * last + 24);
            due.is("21: last DAY " + last + ", OPEN", x.told(pass, 6), 0);
            due.is("21: last DAY " + last + ", WAITS", x.is(0, 4), street);
            due.is("21: last DAY " + last + ", one WAITS", x.count(3), 1);
            x.run(1);
            due.is("21: last DAY " + last + ", OVER", x.told(pass, 6), 2);
            due.is("21: last DAY " + last + ", at HOME", x.is(0, 3), 0);
            due.is("21: last DAY " + last + ", WAITS no more", x.is(0, 4), NONE);
            due.is("21: last DAY " + last + ", nobody WAITS", x.count(3), 0);
        }
    }

    /** A stay inside one's own side ends in the hour in which one crosses with another pass: one is at home at once. */
    private static void insideEnds() {
        CutCity x = walled();
        x.cell(0);
        int inside = x.tie(1, 0, 2, 1);
        int over = x.tie(1, 0, 1, 1);
        int first = x.pass(0, 1, 2, 9);
        int second = x.pass(0, 1, 3, 9);
        x.ask(first, inside);
        x.run(1);
        due.is("21: inside", x.is(0, 3), 2);
        x.run(1);
        due.is("21: not abroad", x.why(second), 0);
        x.ask(second, over);
        x.run(1);
        due.is("21: (b), then (c)", x.is(0, 3), 0);
        due.is("21: the first is OVER", x.told(first, 6), 2);
        due.is("21: the second is USED", x.told(second, 6), 1);
        x.run(2);
        due.is("21: still", x.told(second, 6), 1);
        x.run(1);
        due.is("21: then OVER", x.told(second, 6), 2);
    }
}
