/** The edges of promises 41 to 48, each on both sides. */
public final class MeterEdgeTest {
    private static final int BAD = CutCity.BAD, NONE = CutCity.NONE, NOTHING = CutCity.NOTHING, KIND = CutCity.KIND;
    private static final int INDEX = CutCity.INDEX, SIZE = CutCity.SIZE, MIN = Integer.MIN_VALUE, MAX = Integer.MAX_VALUE;
    private static final Due due = new Due("MeterEdgeTest");
    /** Meter 0: four ints; meter 1: five floats, the first and the third no numbers. */
    private static final Edges town = new Edges(due, Town::lay);
    private static final Edges missing = with(x -> {
        x.meter(0, -1, 0);
        x.meter(1, -1, 0);
    });
    private static final Edges ints = with(x -> {
        x.meter(1, 0, 6);
        for (int i = 0; i < 4; i++) x.put(0, i, 10 + i);
        for (int i = 0; i < 6; i++) x.put(1, i, 20 + i);
    });

    public static void main(String[] args) {
        meter();
        sizes();
        put();
        putFirst();
        read();
        noNumbers();
        copy();
        copyIndex();
        copyFirst();
        copyFloats();
        wrong();
        owed();
        bounds();
        coin();
        rule();
        due.end();
    }

    private static Edges with(Edges.Scene more) {
        return new Edges(due, x -> {
            Town.lay(x);
            more.lay(x);
        });
    }

    private static void meter() {
        town.range("41: METER", 0, 1, 4, BAD, (x, v) -> x.meter(v, 0, 4));
        town.range("41: sort", -1, 0, 1, 4, BAD, (x, v) -> x.meter(0, v, 4));
        for (int sort = 0; sort < 2; sort++) {
            for (int side = 0; side < 2; side++) {
                int s = sort, m = side;
                for (int n : new int[] {0, 1, 29, 30}) town.taken("41: n " + n, n, x -> x.meter(m, s, n));
                for (int n : new int[] {31, 32, MAX}) town.refused("41: n " + n, BAD, x -> x.meter(m, s, n));
                for (int n : new int[] {-1, -2, MIN, NONE}) town.refused("41: n " + n, SIZE, x -> x.meter(m, s, n));
            }
            int s = sort;
            town.refused("41: BAD ahead of SIZE, side", BAD, x -> x.meter(2, s, -1));
            missing.refused("41: above, MISSING", BAD, x -> x.meter(0, s, 31));
            missing.refused("41: below, MISSING", SIZE, x -> x.meter(0, s, -1));
        }
        town.refused("41: BAD ahead of SIZE, sort", BAD, x -> x.meter(0, 2, -1));
        town.refused("41: BAD ahead of SIZE, sort", BAD, x -> x.meter(0, -2, -1));
        town.refused("41: of no METER", BAD, x -> x.meter(-1, -1, 0));
        for (int n : new int[] {MIN, -1, 0, 1, 30, 31, MAX}) {
            town.taken("41: MISSING, n " + n, 0, x -> x.meter(0, -1, n));
            town.then("41: MISSING then, n " + n, NOTHING, x -> x.meter(1, -1, n), x -> x.read(1, 1));
            town.then("41: the other is there, n " + n, 100, x -> x.meter(1, -1, n), x -> x.read(0, 0));
        }
    }

    private static void sizes() {
        for (int sort = 0; sort < 2; sort++) {
            for (int n : new int[] {0, 1, 29, 30}) {
                CutCity x = new CutCity();
                x.meter(1, sort, n);
                for (int day = 0; day < n; day++) due.is("41: all 0", x.read(1, day), 0);
                for (int day = 0; day < n; day++) due.is("42: put", x.put(1, day, day + 1), 1);
                for (int day = 0; day < n; day++) due.is("43: read", x.read(1, day), day + 1);
                for (int day : new int[] {-1, n, n + 1, 30, MIN, MAX}) {
                    due.is("42: of " + n + ", no DAY " + day, x.put(1, day, 1), INDEX);
                    due.is("43: of " + n + ", no DAY " + day, x.read(1, day), INDEX);
                }
                for (int day = 0; day < n; day++) due.is("42: a refused one did nothing", x.read(1, day), day + 1);
                due.is("41: the other one is MISSING", x.read(0, 0), NOTHING);
                x.meter(0, sort, n);
                for (int day = 0; day < n; day++) due.is("41: the other one is all 0", x.read(0, day), 0);
                for (int day = 0; day < n; day++) x.put(0, day, 77);
                for (int day = 0; day < n; day++) due.is("41: each has its own", x.read(1, day), day + 1);
                x.meter(1, 1 - sort, n);
                for (int day = 0; day < n; day++) due.is("41: all 0 again", x.read(1, day), 0);
                for (int day = 0; day < n; day++) due.is("41: but the other one", x.read(0, day), 77);
            }
        }
    }

    private static void put() {
        town.range("42: METER", 0, 1, 1, BAD, (x, v) -> x.put(v, 3, 1));
        town.range("42: DAY of 4", 0, 3, 1, INDEX, (x, v) -> x.put(0, v, 1));
        town.range("42: DAY of 5", 0, 4, 1, INDEX, (x, v) -> x.put(1, v, 1));
        for (int v : new int[] {MIN, MAX, NONE - 1, NONE + 1, BAD, KIND, -100001, 100001, 0}) {
            town.taken("42: ints may be " + v, 1, x -> x.put(0, 3, v));
            town.then("42: ints are " + v, v, x -> x.put(0, 3, v), x -> x.read(0, 3));
        }
        for (int day = 0; day < 4; day++) {
            int d = day;
            town.refused("42: no ints are NONE, " + day, KIND, x -> x.put(0, d, NONE));
        }
        town.range("42: quarters", -100000, 100000, 1, BAD, (x, v) -> x.put(1, 4, v));
        for (int v : new int[] {NONE - 1, NONE + 1, BAD}) town.refused("42: quarters " + v, BAD, x -> x.put(1, 4, v));
        for (int v : new int[] {-100000, -99999, -1, 0, 1, 2, 3, 99999, 100000}) {
            town.then("42: quarters are " + v, v, x -> x.put(1, 4, v), x -> x.read(1, 4));
        }
        town.taken("42: NO NUMBER", 1, x -> x.put(1, 4, NONE));
        town.then("42: NO NUMBER is as the one ahead", 0, x -> x.put(1, 4, NONE), x -> x.read(1, 4));
        missing.refused("42: MISSING", NOTHING, x -> x.put(0, 0, 1));
        missing.refused("42: MISSING", NOTHING, x -> x.put(1, 29, 1));
    }

    /** Of two refusals the one that stands first. */
    private static void putFirst() {
        missing.refused("42: BAD ahead of NOTHING", BAD, x -> x.put(2, 0, 1));
        missing.refused("42: NOTHING ahead of INDEX", NOTHING, x -> x.put(0, -1, 1));
        missing.refused("42: NOTHING ahead of KIND", NOTHING, x -> x.put(0, 0, NONE));
        missing.refused("42: NOTHING ahead of BAD", NOTHING, x -> x.put(1, 0, 100001));
        town.refused("42: BAD ahead of INDEX", BAD, x -> x.put(-1, 30, 1));
        town.refused("42: INDEX ahead of KIND", INDEX, x -> x.put(0, 4, NONE));
        town.refused("42: INDEX ahead of BAD", INDEX, x -> x.put(1, 5, 100001));
        town.refused("42: INDEX ahead of BAD", INDEX, x -> x.put(1, -1, -100001));
    }

    private static void read() {
        town.range("43: METER", 0, -7, 1, 110, BAD, (x, v) -> x.read(v, 2));
        town.range("43: DAY of 4", 0, 100, 3, 0, INDEX, (x, v) -> x.read(0, v));
        int[] floats = {KIND, 110, 110, 0, 0};
        for (int day = 0; day < 5; day++) {
            int d = day;
            town.taken("43: DAY of 5, " + d, floats[d], x -> x.read(1, d));
        }
        for (int v : new int[] {-1, 5, 30, MIN, MAX}) town.refused("43: DAY of 5, " + v, INDEX, x -> x.read(1, v));
        missing.refused("43: MISSING", NOTHING, x -> x.read(0, 0));
        missing.refused("43: NOTHING ahead of INDEX", NOTHING, x -> x.read(1, 30));
        missing.refused("43: BAD ahead of NOTHING", BAD, x -> x.read(2, 0));
        town.refused("43: BAD ahead of INDEX", BAD, x -> x.read(2, 30));
        town.refused("43: NO NUMBER from the first DAY on", KIND, x -> x.read(1, 0));
    }

    /** Thirty days without a number, and one day that has one. */
    private static void noNumbers() {
        for (int day : new int[] {0, 1, 15, 28, 29}) {
            CutCity x = new CutCity();
            x.meter(0, 1, 30);
            for (int i = 0; i < 30; i++) x.put(0, i, NONE);
            for (int i = 0; i < 30; i++) due.is("43: no DAY has one", x.read(0, i), KIND);
            for (int i = 0; i < 30; i++) due.is("46: no DAY has one", x.owed(i), NONE);
            x.put(0, day, -3);
            for (int i = 0; i < 30; i++) due.is("43: DAY " + day + " has one, " + i, x.read(0, i), i < day ? KIND : -3);
            for (int i = 0; i < 30; i++) due.is("46: DAY " + day + " has one, " + i, x.owed(i), i < day ? NONE : -3);
            x.put(0, day, 0);
            for (int i = 0; i < 30; i++) due.is("43: it is 0, " + i, x.read(0, i), i < day ? KIND : 0);
        }
    }

    private static void copy() {
        ints.range("44: from", 0, 1, 2, BAD, (x, v) -> x.copy(v, 0, 1, 0, 2));
        ints.range("44: to", 0, 1, 2, BAD, (x, v) -> x.copy(0, 0, v, 0, 2));
        for (int many = 0; many < 5; many++) {
            for (int day = 0; day + many <= 4; day++) {
                for (int at = 0; at + many <= 6; at++) copied(day, at, many);
            }
        }
    }

    private static void copied(int day, int at, int many) {
        for (int i = 0; i < 6; i++) {
            int d = i;
            int want = i >= at && i < at + many ? 10 + day + i - at : 20 + i;
            ints.then("44: " + many + " of " + day + " to " + at, want, x -> x.copy(0, day, 1, at, many), x -> x.read(1, d));
        }
        ints.then("44: where they were", 13, x -> x.copy(0, day, 1, at, many), x -> x.read(0, 3));
        for (int i = 0; i < 6 && day + many <= 6; i++) {
            int d = i;
            int want = i >= at && i < at + many ? 20 + day + i - at : 20 + i;
            ints.then("44: the same, " + many + " of " + day + " to " + at, want, x -> x.copy(1, day, 1, at, many), x -> x.read(1, d));
        }
    }

    private static void copyIndex() {
        for (int many = 0; many < 7; many++) {
            int m = many;
            for (int day = 0; day + many <= 4; day++) {
                int d = day;
                ints.taken("44: DAY " + d + " of 4, " + m, m, x -> x.copy(0, d, 1, 0, m));
            }
            for (int day : new int[] {-1, 5 - many, 5, MIN, MAX}) {
                if (day >= 0 && day + many <= 4) continue;
                ints.refused("44: DAY " + day + " of 4, " + m, INDEX, x -> x.copy(0, day, 1, 0, m));
            }
            int last = Math.min(6, 6 - many);
            if (many <= 4) ints.taken("44: at " + last + " of 6, " + m, m, x -> x.copy(0, 0, 1, last, m));
            if (many > 4) ints.refused("44: more than there are, " + m, INDEX, x -> x.copy(0, 0, 1, 0, m));
            for (int at : new int[] {-1, last + 1, 7, MIN, MAX}) {
                if (many <= 4) ints.refused("44: at " + at + " of 6, " + m, INDEX, x -> x.copy(0, 0, 1, at, m));
            }
        }
        for (int many : new int[] {-1, -2, -4, MIN, MAX, NONE}) {
            for (int day : new int[] {0, 1, 4, 5}) ints.refused("44: many " + many, INDEX, x -> x.copy(0, day, 1, day, many));
        }
        ints.refused("44: all far off", INDEX, x -> x.copy(0, MAX, 1, MAX, MAX));
        ints.refused("44: all far off", INDEX, x -> x.copy(0, MIN, 1, MIN, MIN));
        ints.refused("44: more than fit", INDEX, x -> x.copy(1, 0, 0, 0, 5));
        ints.taken("44: as many as fit", 4, x -> x.copy(1, 0, 0, 0, 4));
        ints.taken("44: as many as fit", 4, x -> x.copy(1, 2, 0, 0, 4));
        Edges none = with(x -> {
            x.meter(0, 0, 0);
            x.meter(1, 0, 30);
        });
        none.taken("44: none of none", 0, x -> x.copy(0, 0, 0, 0, 0));
        none.taken("44: none of none, to the end", 0, x -> x.copy(0, 0, 1, 30, 0));
        none.refused("44: none of none, behind the end", INDEX, x -> x.copy(0, 0, 1, 31, 0));
        none.refused("44: none of none, from 1", INDEX, x -> x.copy(0, 1, 1, 0, 0));
        none.refused("44: one of none", INDEX, x -> x.copy(0, 0, 1, 0, 1));
        none.taken("44: thirty", 30, x -> x.copy(1, 0, 1, 0, 30));
        none.refused("44: thirty-one", INDEX, x -> x.copy(1, 0, 1, 0, 31));
        none.taken("44: twenty-nine", 29, x -> x.copy(1, 0, 1, 1, 29));
    }

    private static void copyFirst() {
        Edges half = with(x -> x.meter(1, -1, 0));
        for (int from = 0; from < 2; from++) {
            for (int to = 0; to < 2; to++) {
                int f = from, t = to;
                missing.refused("44: MISSING", NOTHING, x -> x.copy(f, 0, t, 0, 0));
                missing.refused("44: NOTHING ahead of INDEX", NOTHING, x -> x.copy(f, -1, t, 0, -1));
                if (f + t > 0) half.refused("44: one is MISSING", NOTHING, x -> x.copy(f, 0, t, 0, 1));
            }
            int f = from;
            missing.refused("44: BAD ahead of NOTHING, to", BAD, x -> x.copy(f, 0, 2, 0, 0));
            missing.refused("44: BAD ahead of NOTHING, from", BAD, x -> x.copy(-1, 0, f, 0, 0));
            town.refused("44: not of one sort", KIND, x -> x.copy(f, 0, 1 - f, 0, 1));
            town.refused("44: not of one sort, none", KIND, x -> x.copy(f, 0, 1 - f, 0, 0));
            town.refused("44: KIND ahead of INDEX, many", KIND, x -> x.copy(f, 0, 1 - f, 0, -1));
            town.refused("44: KIND ahead of INDEX, day", KIND, x -> x.copy(f, 30, 1 - f, 0, 1));
            town.refused("44: BAD ahead of KIND", BAD, x -> x.copy(f, 0, 2, 0, 1));
            town.taken("44: of one sort, being one", 1, x -> x.copy(f, 0, f, 1, 1));
        }
        half.taken("44: the one that is there", 2, x -> x.copy(0, 0, 0, 2, 2));
    }

    private static void copyFloats() {
        Edges floats = with(x -> {
            x.meter(0, 1, 3);
            x.put(0, 0, NONE);
            x.put(0, 1, 100000);
            x.put(0, 2, NONE);
        });
        int[] want = {KIND, 100000, 100000};
        for (int i = 0; i < 3; i++) {
            int day = i;
            floats.then("44: as they were, " + i, want[i], x -> x.copy(0, 0, 1, 0, 3), x -> x.read(1, day));
        }
        floats.then("44: NO NUMBER is copied as it is", 110, x -> x.copy(0, 2, 1, 3, 1), x -> x.read(1, 3));
        floats.then("44: NO NUMBER to the first DAY", KIND, x -> x.copy(0, 2, 1, 0, 1), x -> x.read(1, 0));
        floats.then("44: and back", 100000, x -> x.copy(0, 1, 1, 0, 2), x -> x.read(1, 1));
    }

    private static void wrong() {
        town.range("45: METER", 0, 3, 1, NONE, BAD, (x, v) -> x.wrong(v, 4));
        town.range("45: DAY", 0, 29, 3, BAD, (x, v) -> x.wrong(0, v));
        town.taken("45: NONE", 3, x -> x.wrong(0, NONE));
        for (int v : new int[] {NONE - 1, NONE + 1, BAD, -1, 30}) town.refused("45: DAY " + v, BAD, x -> x.wrong(0, v));
        missing.taken("45: MISSING", 3, x -> x.wrong(0, 29));
        for (int v : new int[] {0, 29, NONE}) town.then("45: it is " + v, v, x -> x.wrong(1, v), x -> x.wrong(1, 5));
        town.then("45: each has its own", 3, x -> x.wrong(1, 9), x -> x.wrong(0, 5));
        for (int day = 0; day < 30; day++) {
            CutCity x = new CutCity();
            for (int side = 0; side < 2; side++) {
                x.meter(side, 0, 30);
                for (int i = 0; i < 30; i++) x.put(side, i, 8 + 4 * side);
            }
            x.rule(0, 100);
            x.wrong(0, day);
            for (int i = 0; i < 30; i++) due.is("46: false from " + day + " on, " + i, x.owed(i), i < day ? 10 : 12);
            x.wrong(1, 29 - day);
            for (int i = 0; i < 30; i++) {
                boolean one = i < day, other = i < 29 - day;
                due.is("46: both are, " + day + ", " + i, x.owed(i), one && other ? 10 : one ? 8 : other ? 12 : NONE);
            }
            x.wrong(0, NONE);
            for (int i = 0; i < 30; i++) due.is("46: one is true again, " + day + ", " + i, x.owed(i), i < 29 - day ? 10 : 8);
        }
    }

    private static void owed() {
        town.range("46: DAY", 0, 100, 29, NONE, BAD, (x, v) -> x.owed(v));
        int[] want = {100, 0, -7, 0, 0, NONE};
        for (int day = 0; day < 6; day++) {
            int d = day;
            town.taken("46: DAY " + day, want[day], x -> x.owed(d));
        }
        town.then("46: the other alone", NONE, x -> x.wrong(0, 0), x -> x.owed(0));
        town.then("46: the other alone", 110, x -> x.wrong(0, 0), x -> x.owed(1));
        town.then("46: the other alone", 110, x -> x.wrong(0, 2), x -> x.owed(2));
        missing.refused("46: none can be READ", NONE, x -> x.owed(0));
        town.then("46: ints alone", -7, x -> x.meter(1, -1, 0), x -> x.owed(2));
        town.then("46: floats alone", 110, x -> x.meter(0, -1, 0), x -> x.owed(2));
    }

    private static int owed(int one, int other, int bound) {
        CutCity x = new CutCity();
        x.meter(0, 0, 1);
        x.meter(1, 0, 1);
        x.put(0, 0, one);
        x.put(1, 0, other);
        x.rule(0, bound);
        return x.owed(0);
    }

    private static void bounds() {
        int[] less = {MIN, MIN + 1, -1000000007, -1000, -101, -100, -99, -50, -3, -2, -1, 0, 1, 2, 3, 9, 10, 11, 50, 99, 100, 101, 1000, 1000000007, MAX};
        for (int bound : new int[] {0, 1, 2, 9, 10, 11, 33, 50, 99, 100}) {
            for (int lesser : less) {
                long apart = bound * Math.abs((long) lesser) / 100;
                for (long by : new long[] {0, apart - 1, apart, apart + 1}) {
                    long more = lesser + by;
                    if (by < 0 || more > MAX || lesser == NONE || more == NONE) continue;
                    int want = (int) (by <= apart ? (lesser + more) / 2 : lesser);
                    String what = "46: " + lesser + ", " + more + " of " + bound;
                    due.is(what, owed(lesser, (int) more, bound), want);
                    due.is(what, owed((int) more, lesser, bound), want);
                }
            }
        }
        CutCity x = new CutCity();
        x.meter(0, 0, 1);
        x.meter(1, 1, 1);
        x.put(0, 0, 1000);
        x.put(1, 0, 1100);
        due.is("46: BOUND is 10 at first", x.owed(0), 1050);
        x.put(1, 0, 1101);
        due.is("46: BOUND is 10 at first", x.owed(0), 1000);
    }

    private static void coin() {
        town.range("47: SIDE", 0, 200, 1, 0, BAD, (x, v) -> x.coin(v, 0));
        town.range("47: DAY", 0, 200, 29, NONE, BAD, (x, v) -> x.coin(0, v));
        town.refused("47: none is OWED", NONE, x -> x.coin(0, 5));
        town.refused("47: none is OWED, without a TEXT", NONE, x -> x.coin(1, 5));
        town.refused("47: BAD ahead of NONE, side", BAD, x -> x.coin(2, 5));
        town.refused("47: BAD ahead of NONE, day", BAD, x -> x.coin(0, 30));
        missing.refused("47: MISSING", NONE, x -> x.coin(0, 0));
        town.taken("47: below 0", -14, x -> x.coin(0, 2));
        with(x -> x.strike(Town.PAY)).then("47: struck tomorrow", 200, x -> x.run(22), x -> x.coin(0, 0));
        with(x -> x.strike(Town.PAY)).then("47: without a TEXT", 0, x -> x.run(23), x -> x.coin(0, 0));
        with(x -> x.put(0, 0, MAX)).taken("47: Ints wrap", -2, x -> x.coin(0, 0));
        with(x -> x.put(0, 0, MIN)).taken("47: Ints wrap", 0, x -> x.coin(0, 0));
    }

    private static void rule() {
        town.range("48: what", 0, 20, 1, 5, BAD, (x, v) -> x.rule(v, 1));
        town.range("48: BOUND", 0, 100, 20, BAD, (x, v) -> x.rule(0, v));
        town.range("48: DEBT", 0, 999, 5, BAD, (x, v) -> x.rule(1, v));
        for (int v : new int[] {0, 100}) town.then("48: BOUND is " + v, v, x -> x.rule(0, v), x -> x.rule(0, 1));
        for (int v : new int[] {0, 101, 999}) town.then("48: DEBT is " + v, v, x -> x.rule(1, v), x -> x.rule(1, 1));
        town.then("48: each its own", 5, x -> x.rule(0, 99), x -> x.rule(1, 1));
    }
}
