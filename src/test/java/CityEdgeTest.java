/** The edges of promises 1 to 14, each on both sides; a call that is refused has changed nothing. */
public final class CityEdgeTest {
    private static final int BAD = CutCity.BAD, NO = CutCity.NO, FULL = CutCity.FULL, NONE = CutCity.NONE, KIND = CutCity.KIND;
    private static final int MIN = Integer.MIN_VALUE, MAX = Integer.MAX_VALUE;
    private static final int[] LEAST = {0, 0, 0, 0, 0, 1}, MOST = {0, 9, 0, 9999, 60, 9};
    private static final Due due = new Due("CityEdgeTest");
    private static final Edges town = new Edges(due, Town::lay);

    public static void main(String[] args) {
        anew();
        lastCall();
        cell();
        water();
        person();
        is();
        be();
        die();
        tieKinds();
        tieEnds();
        tieNumbers();
        tiesAreFull();
        passDays();
        pass();
        parcel();
        told();
        as();
        change();
        gate();
        due.end();
    }

    private static Edges with(Edges.Scene more) {
        return new Edges(due, x -> {
            Town.lay(x);
            more.lay(x);
        });
    }

    private static void anew() {
        Edges empty = new Edges(due, x -> { });
        empty.refused("1: water", BAD, x -> x.water(0, 0, 1));
        empty.refused("1: person", BAD, x -> x.person(0, 1, 1));
        empty.refused("1: is", BAD, x -> x.is(0, 0));
        empty.refused("1: be", BAD, x -> x.be(0, 1, 1));
        empty.refused("1: die", BAD, x -> x.die(0));
        for (int kind = 0; kind < 6; kind++) {
            int k = kind;
            empty.refused("1: tie", BAD, x -> x.tie(k, 0, 1, LEAST[k]));
        }
        empty.refused("1: pass", BAD, x -> x.pass(0, 1, 1, 1));
        empty.refused("1: parcel", BAD, x -> x.parcel(0, 1, 1));
        empty.refused("1: told", BAD, x -> x.told(0, 0));
        empty.refused("1: as", BAD, x -> x.as(0, 0));
        empty.refused("1: change", BAD, x -> x.change(0, 1));
        empty.refused("1: gate", BAD, x -> x.gate(0, 1, 1));
        empty.refused("1: kinship", BAD, x -> x.kinship(0, 1));
        empty.refused("1: take", BAD, x -> x.take(0));
        empty.refused("1: why", BAD, x -> x.why(0));
        empty.refused("1: ask", BAD, x -> x.ask(0, 0));
        empty.refused("1: call", BAD, x -> x.call(0, 1, 1));
        empty.refused("1: of", BAD, x -> x.of(0, 0));
        empty.refused("1: strike", BAD, x -> x.strike(0));
        empty.refused("1: may", BAD, x -> x.may(0, 0));
        empty.refused("1: unlike", BAD, x -> x.unlike(0, 0, 0));
        empty.refused("1: changed", BAD, x -> x.changed(0));
        empty.refused("1: need", BAD, x -> x.need(0, 0));
        empty.refused("1: stop", BAD, x -> x.stop(0, 0, 0));
        empty.refused("1: train", BAD, x -> x.train(0, 0, 0, 0));
        empty.refused("1: alike", BAD, x -> x.alike(0, 0));
        empty.refused("1: pairing", BAD, x -> x.pairing(2));
        empty.refused("1: plan", NO, x -> x.plan(1, 20000));
        empty.refused("1: planned", NO, x -> x.planned(1, 0));
        empty.refused("1: check", NO, x -> x.check(0, 1));
        empty.refused("1: check", NO, x -> x.check(1, 1));
        empty.refused("1: back", NO, CutCity::back);
        for (int i = 0; i < 15; i++) {
            int what = i;
            empty.taken("1: count " + i, 0, x -> x.count(what));
        }
        for (int side = 0; side < 2; side++) {
            int s = side;
            for (int key = 0; key < 5; key++) {
                int k = key;
                empty.taken("1: counts", NONE, x -> x.counts(s, k));
            }
            empty.taken("1: visits", 0, x -> x.visits(s));
            empty.taken("1: lack", 0, x -> x.lack(s));
            empty.taken("1: house", s, x -> x.house(s, 90, 9, 9));
            empty.taken("1: false from", NONE, x -> x.wrong(s, 0));
            empty.taken("1: missing", CutCity.NOTHING, x -> x.read(s, 0));
            empty.taken("1: coin", NONE, x -> x.coin(s, 0));
        }
        empty.taken("1: owed", NONE, x -> x.owed(0));
        empty.taken("1: bound", 10, x -> x.rule(0, 0));
        empty.taken("1: debt", 0, x -> x.rule(1, 0));
        empty.taken("1: arrivals", 0, x -> x.feast(7, 11, 1));
        empty.taken("1: let", 0, x -> x.feast(7, 12, 1));
        empty.taken("1: waiting", 0, x -> x.waiting(255));
        empty.taken("1: gates", 1, x -> x.gates(8));
        empty.taken("1: flow", 0, x -> x.flow(3));
        empty.taken("1: pairs", 0, x -> x.pairing(1));
        empty.taken("1: keep", 0, CutCity::keep);
        empty.taken("1: run", 1, x -> x.run(1));
    }

    /** The last call that is promised is answered as all others. */
    private static void lastCall() {
        CutCity x = new CutCity();
        for (int i = 0; i < 16; i++) x.cell(i & 1);
        for (int i = 0; i < 20; i++) x.person(i & 15, 1, 1);
        for (int i = 0; i < 475; i++) x.be(19, 1, i % 100);
        due.is("1: call 512", x.be(19, 1, 99), 74);
    }

    private static void cell() {
        town.range("2: SIDE", 0, 1, 4, BAD, (x, v) -> x.cell(v));
        Edges almost = with(x -> { for (int i = 4; i < 15; i++) x.cell(1); });
        almost.taken("2: the 16th", 15, x -> x.cell(0));
        Edges full = with(x -> { for (int i = 4; i < 16; i++) x.cell(1); });
        full.refused("2: the 17th", FULL, x -> x.cell(0));
        full.refused("2: the 17th", FULL, x -> x.cell(1));
        full.refused("2: BAD ahead of FULL", BAD, x -> x.cell(2));
        full.refused("2: BAD ahead of FULL", BAD, x -> x.cell(-1));
        full.taken("2: the 16th is there", 0, x -> x.water(15, 1, 9));
        full.taken("2: and has its side", 5, x -> x.person(15, 1, 1));
        full.refused("3: a 17th is not", BAD, x -> x.water(16, 1, 9));
    }

    private static void water() {
        town.range("3: CELL", 0, 40, 3, 0, BAD, (x, v) -> x.water(v, 0, 9));
        town.range("3: what", 0, 40, 1, 60, BAD, (x, v) -> x.water(0, v, 9));
        town.range("3: USE", 0, 999, 50, BAD, (x, v) -> x.water(1, 0, v));
        town.range("3: SOURCE", 0, 9999, 30, BAD, (x, v) -> x.water(2, 1, v));
        for (int v : new int[] {0, 999}) town.then("3: USE is", v, x -> x.water(1, 0, v), x -> x.water(1, 0, 5));
        for (int v : new int[] {0, 9999}) town.then("3: SOURCE is", v, x -> x.water(2, 1, v), x -> x.water(2, 1, 5));
        town.then("3: SOURCE is no USE", 50, x -> x.water(1, 1, 999), x -> x.water(1, 0, 5));
    }

    private static void person() {
        town.range("4: HOME", 0, 3, 5, BAD, (x, v) -> x.person(v, 1, 1));
        town.range("4: AGE", 0, 99, 5, BAD, (x, v) -> x.person(0, v, 1));
        town.range("4: PAPERS", 0, 3, 5, BAD, (x, v) -> x.person(0, 1, v));
        for (int what = 0; what < 8; what++) {
            int w = what;
            int[] most = {3, 99, 3, 3, NONE, 0, 0, 0}, least = {0, 0, 0, 0, NONE, 0, 0, 0};
            town.taken("4: of the most, " + w, most[w], x -> x.is(x.person(3, 99, 3), w));
            town.taken("4: of the least, " + w, least[w], x -> x.is(x.person(0, 0, 0), w));
        }
        Edges almost = with(x -> { for (int i = 5; i < 19; i++) x.person(1, i, 1); });
        almost.taken("4: the 20th", 19, x -> x.person(3, 99, 3));
        Edges full = with(x -> { for (int i = 5; i < 20; i++) x.person(1, i, 1); });
        full.refused("4: the 21st", FULL, x -> x.person(0, 0, 0));
        full.refused("4: the 21st", FULL, x -> x.person(3, 99, 3));
        full.refused("4: BAD ahead of FULL, home", BAD, x -> x.person(4, 0, 0));
        full.refused("4: BAD ahead of FULL, age", BAD, x -> x.person(0, 100, 0));
        full.refused("4: BAD ahead of FULL, papers", BAD, x -> x.person(0, 0, 4));
        full.taken("4: the 20th may die", 1, x -> x.die(19));
        int[] known = {1, 0, 1};
        for (int what = 5; what < 8; what++) {
            int w = what;
            full.then("4: and is known where it was", known[w - 5], x -> x.die(19), x -> x.is(19, w));
        }
        full.then("4: the 20th is of kin", 9, x -> x.tie(5, 18, 19, 9), x -> x.kinship(19, 18));
    }

    private static void is() {
        town.range("5: PERSON", 0, 30, 4, 70, BAD, (x, v) -> x.is(v, 1));
        town.range("5: what", 0, 0, 7, 0, BAD, (x, v) -> x.is(Town.ANNA, v));
        int[][] want = {
            {0, 30, 0, 0, NONE, 0, 0, 0},
            {1, 41, 1, NONE, Town.STREET, 0, 0, 0},
            {2, 50, 2, 2, NONE, 0, 0, 0},
            {3, 60, 3, 0, NONE, 0, 0, 0},
            {0, 70, 1, NONE, NONE, 1, 1, 0}};
        for (int i = 0; i < 5; i++) {
            for (int k = 0; k < 8; k++) {
                int person = i, what = k;
                town.taken("5: " + i + " " + k, want[i][k], x -> x.is(person, what));
            }
        }
    }

    private static void be() {
        town.range("6: PERSON", 0, 30, 4, 70, BAD, (x, v) -> x.be(v, 1, 9));
        town.range("6: what", 1, 50, 2, 2, BAD, (x, v) -> x.be(Town.PAUL, v, 3));
        town.range("6: AGE", 0, 99, 50, BAD, (x, v) -> x.be(Town.PAUL, 1, v));
        town.range("6: PAPERS", 0, 3, 2, BAD, (x, v) -> x.be(Town.PAUL, 2, v));
        for (int v : new int[] {0, 99}) town.then("6: AGE is", v, x -> x.be(2, 1, v), x -> x.is(2, 1));
        for (int v : new int[] {0, 3}) town.then("6: PAPERS are", v, x -> x.be(2, 2, v), x -> x.is(2, 2));
    }

    private static void die() {
        for (int i = 0; i < 4; i++) {
            int person = i;
            town.taken("7: " + i, 1, x -> x.die(person));
        }
        int[] nobody = {-1, 5, 20, 32, 32 + Town.DEAD, Town.DEAD - 32, MIN, MAX};
        for (int v : nobody) town.refused("7: PERSON " + v, BAD, x -> x.die(v));
        for (int v : nobody) town.refused("5: PERSON " + v, BAD, x -> x.is(v, 5));
        town.refused("7: is DEAD", NO, x -> x.die(Town.DEAD));
        town.taken("7: all are", 5, x -> {
            for (int i = 0; i < 4; i++) x.die(i);
            return x.count(2);
        });
        int[][] known = {{1, 0}, {0, 1}, {1, 0}, {1, 0}};
        for (int i = 0; i < 4; i++) {
            for (int side = 0; side < 2; side++) {
                int person = i, what = 6 + side;
                town.then("7: " + i + " is known on " + side, known[i][side], x -> x.die(person), x -> x.is(person, what));
            }
        }
        town.then("7: waits no more", 0, x -> x.die(Town.WAITS), x -> x.told(Town.STREET, 9));
    }

    private static void tieKinds() {
        town.range("8: KIND", 0, 5, 12, BAD, (x, v) -> x.tie(v, 0, 1, v == 5 ? 1 : 0));
        for (int kind : new int[] {-1, 6, 7, 8, MIN, MAX}) {
            for (int c : new int[] {0, 1, 9}) town.refused("8: KIND " + kind + " of " + c, BAD, x -> x.tie(kind, 0, 1, c));
        }
        for (int i = 0; i < 6; i++) {
            int kind = i;
            town.taken("8: its KIND", kind, x -> x.told(x.tie(kind, 0, 1, LEAST[kind]), 0));
        }
    }

    private static void tieEnds() {
        for (int i = 0; i < 6; i++) {
            int kind = i;
            int last = kind == 5 ? Town.PERSONS - 1 : Town.CELLS - 1;
            town.range("8: one end of " + kind, 0, last, 12, BAD, (x, v) -> x.tie(kind, v, 1, LEAST[kind]));
            town.range("8: the other end of " + kind, 0, last, 12, BAD, (x, v) -> x.tie(kind, 1, v, LEAST[kind]));
            for (int v = 0; v <= last; v++) {
                int end = v;
                town.refused("8: both ends of " + kind + " are " + v, BAD, x -> x.tie(kind, end, end, LEAST[kind]));
            }
        }
        Edges wide = new Edges(due, x -> {
            for (int i = 0; i < 16; i++) x.cell(i & 1);
            for (int i = 0; i < 2; i++) x.person(i, 1, 1);
        });
        wide.taken("8: 15 is a cell", 0, x -> x.tie(4, 15, 0, 60));
        wide.refused("8: of kin it is none", BAD, x -> x.tie(5, 15, 0, 1));
        wide.refused("8: of kin 2 is none", BAD, x -> x.tie(5, 0, 2, 1));
        wide.taken("8: of kin 1 is one", 0, x -> x.tie(5, 0, 1, 1));
    }

    private static void tieNumbers() {
        for (int i = 0; i < 6; i++) {
            int kind = i;
            town.range("8: c of " + kind, LEAST[kind], MOST[kind], 12, BAD, (x, v) -> x.tie(kind, 0, 1, v));
            town.taken("8: the most c of " + kind, MOST[kind], x -> x.told(x.tie(kind, 0, 1, MOST[kind]), 3));
            town.taken("8: the least c of " + kind, LEAST[kind], x -> x.told(x.tie(kind, 0, 1, LEAST[kind]), 3));
        }
    }

    private static void more(CutCity x, int upTo) {
        for (int i = Town.TIES; i < upTo; i++) x.tie(0, i & 1, 2, 0);
    }

    private static void tiesAreFull() {
        Edges almost = with(x -> more(x, 39));
        Edges full = with(x -> more(x, 40));
        for (int i = 0; i < 6; i++) {
            int kind = i;
            almost.taken("8: the 40th", 39, x -> x.tie(kind, 0, 1, LEAST[kind]));
            full.refused("8: the 41st", FULL, x -> x.tie(kind, 0, 1, LEAST[kind]));
            full.refused("8: BAD ahead of FULL, c", BAD, x -> x.tie(kind, 0, 1, LEAST[kind] - 1));
            full.refused("8: BAD ahead of FULL, ends", BAD, x -> x.tie(kind, 1, 1, LEAST[kind]));
            full.refused("8: BAD ahead of FULL, an end", BAD, x -> x.tie(kind, 5, 1, LEAST[kind]));
        }
        full.refused("8: BAD ahead of FULL, kind", BAD, x -> x.tie(6, 0, 1, 1));
        almost.taken("9: the 40th", 39, x -> x.pass(0, 1, 1, 0));
        full.refused("9: the 41st", FULL, x -> x.pass(0, 1, 1, 0));
        full.refused("9: BAD ahead of FULL, one side", BAD, x -> x.pass(0, 2, 1, 0));
        full.refused("9: BAD ahead of FULL, person", BAD, x -> x.pass(5, 1, 1, 0));
        full.refused("9: BAD ahead of FULL, stay", BAD, x -> x.pass(0, 1, 0, 0));
        full.refused("9: BAD ahead of FULL, days", BAD, x -> x.pass(0, 1, 1, 1000));
        almost.taken("10: the 40th", 39, x -> x.parcel(Town.PASS, 1, 0));
        full.refused("10: the 41st", FULL, x -> x.parcel(Town.PASS, 1, 0));
        full.refused("10: NO ahead of FULL", NO, x -> x.parcel(Town.TAKEN, 1, 0));
        full.refused("10: BAD ahead of FULL", BAD, x -> x.parcel(Town.PASS, 0, 0));
        full.taken("11: the 40th", 2, x -> x.told(39, 2));
        full.refused("11: there is no 41st", BAD, x -> x.told(40, 0));
    }

    private static void passDays() {
        int[][] taken = {{0, 0, 0}, {416, 0, 416}, {416416, 416, 416}, {1001, 1, 1}, {1416, 1, 416}, {415416, 415, 416}, {9010, 9, 10}};
        for (int[] t : taken) {
            town.taken("9: DAYS " + t[0], 12, x -> x.pass(0, 1, 1, t[0]));
            for (int i = 0; i < 2; i++) {
                int what = 4 + i, want = t[1 + i];
                town.taken("9: DAYS " + t[0] + " are told", want, x -> x.told(x.pass(0, 1, 1, t[0]), what));
            }
        }
        int[] refused = {-1, MIN, MAX, 417, 418, 999, 1000, 1417, 1999, 9008, 416415, 416417, 416000, 417000, 417416, 417417, 417418, 1000000, 1000001, -1000, -584, -999000};
        for (int days : refused) town.refused("9: DAYS " + days, BAD, x -> x.pass(0, 1, 1, days));
    }

    private static void pass() {
        for (int i = 0; i < 5; i += 2) {
            int person = i;
            town.taken("9: of " + i, 12, x -> x.pass(person, 1, 1, 0));
            town.taken("9: to " + i, 12, x -> x.pass(3, person, 1, 0));
            town.refused("9: on one SIDE, of " + i, BAD, x -> x.pass(person, (person + 2) % 6, 1, 0));
            town.refused("9: to oneself, " + i, BAD, x -> x.pass(person, person, 1, 0));
        }
        town.refused("9: on one SIDE", BAD, x -> x.pass(1, 3, 1, 0));
        for (int v : new int[] {-1, 5, MIN, MAX}) {
            town.refused("9: of " + v, BAD, x -> x.pass(v, 1, 1, 0));
            town.refused("9: to " + v, BAD, x -> x.pass(0, v, 1, 0));
        }
        town.range("9: STAY", 1, 99, 12, BAD, (x, v) -> x.pass(0, 1, v, 0));
        for (int v : new int[] {1, 99}) town.taken("9: STAY is told", v, x -> x.told(x.pass(0, 1, v, 0), 3));
        town.taken("9: is OPEN", 0, x -> x.told(x.pass(0, 1, 1, 0), 6));
    }

    private static void parcel() {
        town.taken("10: with a PASS", 12, x -> x.parcel(Town.PASS, 1, 0));
        town.taken("10: with one who WAITS", 12, x -> x.parcel(Town.ASKED, 1, 0));
        int[] none = {Town.PLAIN, Town.STREET, Town.LINE, Town.PIPE, Town.WIRE, Town.KIN, Town.PARCEL, Town.CUT, 12, 40, -1, MIN, MAX};
        for (int v : none) town.refused("10: no PASS " + v, BAD, x -> x.parcel(v, 1, 0));
        town.range("10: WEIGHT", 1, 99, 12, BAD, (x, v) -> x.parcel(Town.PASS, v, 0));
        town.range("10: STUFF", 0, 7, 12, BAD, (x, v) -> x.parcel(Town.PASS, 1, v));
        for (int v : new int[] {1, 99}) town.taken("10: WEIGHT is told", v, x -> x.told(x.parcel(Town.PASS, v, 0), 3));
        for (int v : new int[] {0, 7}) town.taken("10: STUFF is told", v, x -> x.told(x.parcel(Town.PASS, 1, v), 7));
        town.refused("10: USED", NO, x -> x.parcel(Town.USED, 1, 0));
        town.refused("10: TAKEN BACK", NO, x -> x.parcel(Town.TAKEN, 1, 0));
        with(x -> x.run(9)).refused("10: OVER", NO, x -> x.parcel(Town.USED, 1, 0));
        town.refused("10: BAD ahead of NO, weight", BAD, x -> x.parcel(Town.USED, 0, 0));
        town.refused("10: BAD ahead of NO, stuff", BAD, x -> x.parcel(Town.TAKEN, 1, 8));
    }

    private static void told() {
        town.range("11: TIE", 0, 0, 11, 2, BAD, (x, v) -> x.told(v, 1));
        town.range("11: what", 0, 1, 9, 1, BAD, (x, v) -> x.told(Town.STREET, v));
        int[][] want = {
            {0, 0, 1, 0, 0, 0, 0, 0, NONE, 0},
            {1, 0, 1, 1, 5, 9, 0, 0, NONE, 1},
            {2, 0, 1, 0, 0, 0, 0, 0, NONE, 0},
            {3, 0, 1, 25, 0, 0, 0, 0, NONE, 0},
            {4, 0, 1, 10, 0, 0, 0, 0, NONE, 2},
            {5, 0, 1, 3, 0, 0, 0, 0, NONE, 0},
            {6, 3, 2, 9, 0, 1, 1, 0, NONE, 0},
            {6, 0, 1, 2, 0, 5, 0, 0, NONE, 0},
            {7, 0, 1, 20, 0, 0, 0, 3, Town.PASS, 0},
            {6, 2, 3, 2, 0, 0, 3, 0, NONE, 0},
            {6, 1, 0, 2, 0, 5, 0, 0, NONE, 0},
            {1, 2, 3, 0, 22, 2, 0, 0, NONE, 0}};
        for (int i = 0; i < Town.TIES; i++) {
            for (int k = 0; k < 10; k++) {
                int tie = i, what = k;
                town.taken("11: " + i + " " + k, want[i][k], x -> x.told(tie, what));
            }
        }
    }

    private static void as() {
        town.range("12: TIE", 0, 11, 0, BAD, (x, v) -> x.as(v, 0));
        town.range("12: KIND", 0, 20, 7, 20, BAD, (x, v) -> x.as(Town.PARCEL, v));
        boolean[][] under = new boolean[8][8];
        for (int kind = 0; kind < 8; kind++) under[kind][kind] = under[kind][0] = true;
        int[][] above = {{4, 3}, {6, 5}, {7, 6}, {7, 5}};
        for (int[] a : above) under[a[0]][a[1]] = true;
        int[] tie = {Town.PLAIN, Town.STREET, Town.LINE, Town.PIPE, Town.WIRE, Town.KIN, Town.PASS, Town.PARCEL};
        int[] c = {0, 1, 0, 25, 10, 3, 2, 20};
        for (int i = 0; i < 8; i++) {
            for (int k = 0; k < 8; k++) {
                int one = tie[i], kind = k;
                if (under[i][k]) town.taken("12: " + i + " is a " + k, c[i], x -> x.as(one, kind));
                else town.refused("12: " + i + " is no " + k, KIND, x -> x.as(one, kind));
            }
        }
        town.refused("12: BAD ahead of KIND", BAD, x -> x.as(12, 8));
        town.refused("12: a KIND that is none", BAD, x -> x.as(Town.PLAIN, 8));
    }

    private static void change() {
        int[] was = {0, 1, 0, 25, 10, 3};
        for (int kind : new int[] {1, 3, 4, 5}) {
            town.range("13: c of " + kind, LEAST[kind], MOST[kind], was[kind], BAD, (x, v) -> x.change(kind, v));
            for (int v : new int[] {LEAST[kind], MOST[kind]}) {
                town.then("13: c of " + kind + " is told", v, x -> x.change(kind, v), x -> x.told(kind, 3));
            }
        }
        for (int tie : new int[] {Town.PLAIN, Town.LINE, Town.USED, Town.PASS, Town.PARCEL, Town.TAKEN}) {
            for (int v : new int[] {0, 1, 2, -1, MAX}) town.refused("13: another KIND, " + tie, KIND, x -> x.change(tie, v));
        }
        for (int tie : new int[] {-1, 12, 40, MIN, MAX}) {
            for (int v : new int[] {1, -1}) town.refused("13: TIE " + tie, BAD, x -> x.change(tie, v));
        }
        town.taken("13: TIE 11", 0, x -> x.change(Town.CUT, 1));
    }

    private static void gate() {
        town.range("14: from", 0, 23, 1, BAD, (x, v) -> x.gate(Town.STREET, v, 9));
        town.range("14: to", 0, 23, 1, BAD, (x, v) -> x.gate(Town.STREET, 5, v));
        for (int v : new int[] {0, 23}) {
            town.then("14: from is told", v, x -> x.gate(Town.STREET, v, 9), x -> x.told(Town.STREET, 4));
            town.then("14: to is told", v, x -> x.gate(Town.STREET, 5, v), x -> x.told(Town.STREET, 5));
        }
        town.taken("14: the last TIE", 1, x -> x.gate(Town.CUT, 1, 1));
        for (int tie : new int[] {-1, 12, 40, MIN, MAX}) town.refused("14: TIE " + tie, BAD, x -> x.gate(tie, 1, 1));
        for (int tie = 0; tie < Town.TIES; tie++) {
            int one = tie;
            if (tie == Town.STREET || tie == Town.CUT) continue;
            town.refused("14: no STREET " + tie, KIND, x -> x.gate(one, 1, 1));
            town.refused("14: BAD ahead of KIND, from", BAD, x -> x.gate(one, 24, 1));
            town.refused("14: BAD ahead of KIND, to", BAD, x -> x.gate(one, 1, -1));
        }
    }
}
