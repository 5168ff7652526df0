/** The edges of promises 49 to 54, each on both sides: feasts, clauses. */
public final class FeastEdgeTest {
    private static final int BAD = CutCity.BAD, NO = CutCity.NO, FULL = CutCity.FULL, SPENT = CutCity.SPENT, NONE = CutCity.NONE;
    private static final int MIN = Integer.MIN_VALUE, MAX = Integer.MAX_VALUE, ALL = 20000;
    private static final Due due = new Due("FeastEdgeTest");
    private static final Edges town = new Edges(due, Town::lay);

    public static void main(String[] args) {
        feast();
        waiting();
        crowds();
        nextGate();
        gates();
        sets();
        clause();
        plan();
        planned();
        visitsReached();
        debts();
        tries();
        firstOrder();
        due.end();
    }

    private static Edges with(Edges.Scene more) {
        return new Edges(due, x -> {
            Town.lay(x);
            more.lay(x);
        });
    }

    private static void feast() {
        town.range("49: GATE", 0, 9, 7, 0, BAD, (x, v) -> x.feast(v, 0, 5));
        town.range("49: HOUR", 0, 9, 12, 2, BAD, (x, v) -> x.feast(0, v, 5));
        town.range("49: ARRIVALS", 0, 99, 9, BAD, (x, v) -> x.feast(0, 0, v));
        town.range("49: ARRIVALS of the last HOUR", 0, 99, 0, BAD, (x, v) -> x.feast(7, 11, v));
        town.range("49: LET", 0, 99, 2, BAD, (x, v) -> x.feast(0, 12, v));
        for (int gate = 0; gate < 8; gate++) {
            for (int hour = 0; hour < 13; hour++) {
                int g = gate, h = hour;
                for (int v : new int[] {0, 99}) town.then("49: " + g + " " + h + " is " + v, v, x -> x.feast(g, h, v), x -> x.feast(g, h, 7));
            }
        }
    }

    private static void waiting() {
        town.range("50: SET", 1, 25, 255, 37, BAD, (x, v) -> x.waiting(v));
        town.taken("50: at 0 alone", 7 + 5 + 3 + 1 + 5 + 3 + 1, x -> x.waiting(1));
        for (int set : new int[] {2, 4, 16, 128, 254 - 8}) {
            town.taken("50: none is let by", 9 * 12 + 7 * 7, x -> x.waiting(set));
        }
        town.refused("50: no GATE is", BAD, x -> x.waiting(0));
        town.refused("50: a ninth one", BAD, x -> x.waiting(511));
    }

    /** Arrivals in one hour at one gate that lets so many by: who waits behind each hour from then on. */
    private static void crowds() {
        for (int hour = 0; hour < 12; hour++) {
            for (int v : new int[] {0, 1, 98, 99}) {
                for (int let : new int[] {0, 1, 8, 49, 50, 97, 98, 99}) {
                    CutCity x = new CutCity();
                    x.feast(3, hour, v);
                    x.feast(3, 12, let);
                    int sum = 0;
                    for (int h = hour, left = v; h < 12; h++) {
                        left = Math.max(0, left - let);
                        sum += left;
                    }
                    due.is("50: " + v + " in HOUR " + hour + " by " + let, x.waiting(8), sum);
                    due.is("50: " + v + " in HOUR " + hour + " by " + let + ", all open", x.waiting(255), sum);
                    due.is("50: " + v + " in HOUR " + hour + ", gone elsewhere", x.waiting(16), v * (12 - hour));
                }
            }
        }
        CutCity x = new CutCity();
        for (int gate = 0; gate < 8; gate++) for (int hour = 0; hour < 12; hour++) x.feast(gate, hour, 99);
        due.is("50: as many as can be", x.waiting(255), 8 * 99 * 78);
        due.is("50: as many as can be, at one", x.waiting(128), 8 * 99 * 78);
        x.feast(7, 12, 99);
        due.is("50: but for one GATE's", x.waiting(255), 7 * 99 * 78);
        due.is("50: but for one GATE's, alone", x.waiting(128), 7 * 99 * 78);
        for (int gate = 0; gate < 7; gate++) x.feast(gate, 12, 99);
        due.is("50: all are let by", x.waiting(255), 0);
        due.is("51: all eight", x.gates(8), 255);
        x.feast(0, 12, 98);
        due.is("50: one more each HOUR", x.waiting(255), 78);
        due.is("51: all eight", x.gates(8), 255);
    }

    /** One arrives at a gate, and one gate lets by: nobody waits if that is the one, for each set. */
    private static void nextGate() {
        for (int gate = 0; gate < 8; gate++) {
            for (int from = 0; from < 256; from += 64) nextGate(gate, from);
        }
    }

    private static void nextGate(int gate, int from) {
        CutCity x = new CutCity();
        x.feast(gate, 11, 1);
        for (int set = Math.max(1, from); set < from + 64; set++) {
            int next = gate;
            while ((set >> next & 1) == 0) next = (next + 1) % 8;
            due.is("50: none is let by of " + set, x.waiting(set), 1);
            x.feast(next, 12, 1);
            due.is("50: from " + gate + " to " + next + " of " + set, x.waiting(set), 0);
            x.feast(next, 12, 0);
        }
    }

    private static void gates() {
        town.range("51: m", 1, 8, 1, BAD, (x, v) -> x.gates(v));
        CutCity x = new CutCity();
        for (int gate = 0; gate < 8; gate++) {
            x.feast(gate, 0, 10);
            x.feast(gate, 12, 10);
        }
        for (int m = 1; m < 9; m++) {
            int set = x.gates(m);
            int best = 0;
            for (int other = 1; other < 256; other++) {
                if (Integer.bitCount(other) > m) continue;
                if (best == 0 || better(other, best)) best = other;
            }
            due.is("51: " + m + " of eight alike", set, best);
            due.is("51: " + m + " of eight alike, all that may be", Integer.bitCount(set), m);
        }
    }

    /** Ten arrive at each gate in hour 0, and each gate lets ten by. */
    private static boolean better(int one, int other) {
        int a = wait(one), b = wait(other);
        if (a != b) return a < b;
        int m = Integer.bitCount(one), n = Integer.bitCount(other);
        return m != n ? m < n : one < other;
    }

    private static int wait(int set) {
        int sum = 0;
        for (int gate = 0; gate < 8; gate++) {
            if ((set >> gate & 1) == 0) continue;
            int crowd = 10;
            for (int i = gate + 7; i > gate && (set >> (i % 8) & 1) == 0; i--) crowd += 10;
            for (int hour = 0; hour < 12; hour++) {
                crowd = Math.max(0, crowd - 10);
                sum += crowd;
            }
        }
        return sum;
    }

    private static void sets() {
        for (int gate = 0; gate < 8; gate++) {
            CutCity x = new CutCity();
            x.feast(gate, 3, 50);
            x.feast(gate, 12, 50);
            for (int m = 1; m < 9; m++) due.is("51: the one GATE " + gate, x.gates(m), 1 << gate);
            x.feast((gate + 1) % 8, 12, 50);
            int least = Math.min(1 << gate, 1 << (gate + 1) % 8);
            due.is("51: the least of two", x.gates(1), least);
            due.is("51: no more than are needed", x.gates(2), least);
            x.feast((gate + 1) % 8, 12, 49);
            due.is("51: the one with less WAITING", x.gates(8), 1 << gate);
            x.feast((gate + 1) % 8, 3, 1);
            x.feast((gate + 1) % 8, 12, 1);
            due.is("51: two, as one of them waits at one", x.gates(2), 1 << gate | 1 << (gate + 1) % 8);
            due.is("51: one of two", x.gates(1), 1 << gate);
            due.is("51: two of eight", x.gates(8), 1 << gate | 1 << (gate + 1) % 8);
        }
        due.is("51: nobody comes", new CutCity().gates(1), 1);
    }

    private static void clause() {
        town.range("52: WORTH for 0", -99, 99, 3, BAD, (x, v) -> x.clause(v, 0, 0));
        town.range("52: WORTH for 1", -99, 99, 3, BAD, (x, v) -> x.clause(0, v, 0));
        town.range("52: VISITS", 0, 99, 3, BAD, (x, v) -> x.clause(0, 0, v));
        with(x -> clauses(x, 6)).taken("52: the 7th", 6, x -> x.clause(99, 99, 99));
        Edges full = with(x -> clauses(x, 7));
        full.refused("52: the 8th", FULL, x -> x.clause(0, 0, 0));
        full.refused("52: the 8th", FULL, x -> x.clause(-99, 99, 99));
        full.refused("52: BAD ahead of FULL, worth", BAD, x -> x.clause(100, 0, 0));
        full.refused("52: BAD ahead of FULL, other", BAD, x -> x.clause(0, -100, 0));
        full.refused("52: BAD ahead of FULL, visits", BAD, x -> x.clause(0, 0, 100));
        full.taken("59: seven", 7, x -> x.count(9));
        full.taken("53: the 7th counts", 7, x -> x.plan(14 + 2 + 2 + 2 + 2, ALL));
        full.taken("54: the 7th counts", 6, x -> x.planned(22, 6));
    }

    private static void clauses(CutCity x, int upTo) {
        for (int i = 3; i < upTo; i++) x.clause(0, 0, 2);
    }

    private static void plan() {
        town.range("53: n", 1, 1, 999, NO, BAD, (x, v) -> x.plan(v, ALL));
        town.range("53: TRIES", 1, SPENT, ALL, 1, BAD, (x, v) -> x.plan(1, v));
        town.refused("53: NO", NO, x -> x.plan(15, ALL));
        town.taken("53: all", 3, x -> x.plan(14, ALL));
        town.refused("53: SPENT", SPENT, x -> x.plan(14, 1));
        town.refused("53: SPENT ahead of NO", SPENT, x -> x.plan(999, 14));
        town.refused("53: NO", NO, x -> x.plan(999, 15));
        town.refused("53: BAD ahead of SPENT", BAD, x -> x.plan(1000, 1));
        town.refused("53: BAD ahead of SPENT", BAD, x -> x.plan(0, 1));
    }

    private static void planned() {
        town.range("54: n", 1, 0, 999, NO, BAD, (x, v) -> x.planned(v, 0));
        town.taken("54: YEAR 1", 0, x -> x.planned(13, 0));
        town.taken("54: YEAR 2", 1, x -> x.planned(13, 1));
        for (int i : new int[] {2, 3, 6, 7, 8, MAX}) town.refused("54: not so many, " + i, NONE, x -> x.planned(13, i));
        for (int i : new int[] {-1, MIN}) town.refused("54: i " + i, BAD, x -> x.planned(13, i));
        town.refused("54: NO", NO, x -> x.planned(15, 0));
        town.refused("54: NO ahead of NONE", NO, x -> x.planned(15, 9));
        town.refused("54: BAD ahead of NO, i", BAD, x -> x.planned(15, -1));
        town.refused("54: BAD ahead of NO, n", BAD, x -> x.planned(1000, 0));
        int[] all = {0, 1, 2};
        for (int i = 0; i < 3; i++) {
            int year = i;
            town.taken("54: all three", all[i], x -> x.planned(14, year));
        }
    }

    /** Seven clauses of 99 visits: how many years it takes to so many. */
    private static void visitsReached() {
        CutCity x = new CutCity();
        for (int i = 0; i < 7; i++) x.clause(99, 99, 99);
        for (int years = 1; years < 8; years++) {
            due.is("53: to " + 99 * years, x.plan(99 * years, ALL), years);
            due.is("53: to one more", x.plan(99 * years + 1, ALL), years < 7 ? years + 1 : NO);
            due.is("54: the last of them", x.planned(99 * years, years - 1), years - 1);
            due.is("54: nothing behind it", x.planned(99 * years, years), NONE);
        }
        CutCity y = new CutCity();
        y.clause(0, 0, 0);
        due.is("53: no VISITS", y.plan(1, ALL), NO);
        y.clause(0, 0, 1);
        due.is("53: one VISIT", y.plan(1, ALL), 1);
        due.is("54: one VISIT", y.planned(1, 0), 1);
        due.is("53: two", y.plan(2, ALL), NO);
    }

    /** A clause that costs one side so much, with so much debt. */
    private static void debts() {
        for (int cost : new int[] {0, 1, 50, 98, 99}) {
            for (int debt : new int[] {0, 1, 49, 50, 51, 97, 98, 99, 999}) {
                CutCity x = new CutCity(), y = new CutCity();
                x.clause(-cost, 99, 5);
                y.clause(99, -cost, 5);
                x.rule(1, debt);
                y.rule(1, debt);
                due.is("53: -" + cost + " of SIDE 0 with DEBT " + debt, x.plan(5, 1), cost <= debt ? 1 : NO);
                due.is("53: -" + cost + " of SIDE 1 with DEBT " + debt, y.plan(5, 1), cost <= debt ? 1 : NO);
            }
        }
        for (int debt : new int[] {0, 98, 99, 197, 198, 692, 693, 999}) {
            CutCity x = new CutCity();
            for (int i = 0; i < 7; i++) x.clause(-99, -99 + 198 * (i & 1), 1);
            x.rule(1, debt);
            int years = Math.min(7, debt / 99);
            if (years > 0) due.is("53: so many YEARS with DEBT " + debt, x.plan(years, ALL), years);
            due.is("53: no more with DEBT " + debt, x.plan(years + 1, ALL), NO);
        }
        CutCity x = new CutCity();
        x.clause(-3, 0, 1);
        x.clause(3, 0, 1);
        due.is("53: the one that gives comes first", x.plan(2, ALL), 2);
        due.is("54: the one that gives comes first", x.planned(2, 0), 1);
        x.rule(1, 3);
        due.is("54: with DEBT the first one does", x.planned(2, 0), 0);
        x.rule(1, 2);
        due.is("54: with too little it does not", x.planned(2, 0), 1);
    }

    private static void tries(CutCity x, int n, int tries, int want) {
        due.is("53: " + tries + " TRIES to " + n, x.plan(n, tries), want);
        if (tries > 1) due.is("53: one TRY less to " + n, x.plan(n, tries - 1), SPENT);
        if (tries < ALL) due.is("53: one TRY more to " + n, x.plan(n, tries + 1), want);
    }

    private static void tries() {
        int[] all = {1, 4, 15, 64, 325, 1956, 13699};
        CutCity x = new CutCity();
        due.is("53: no TRIES are done", x.plan(1, 1), NO);
        for (int i = 0; i < 7; i++) {
            x.clause(0, 0, 1);
            tries(x, i + 1, all[i], i + 1);
            tries(x, i + 2, all[i], NO);
            tries(x, 1, i + 1, 1);
            if (i > 0) tries(x, 2, (i + 1) * (i + 1), 2);
        }
        due.is("53: all TRIES", x.plan(999, ALL), NO);
        due.is("54: never SPENT", x.planned(999, 0), NO);
        due.is("56: never SPENT", x.check(0, 999), NO);
        CutCity y = new CutCity();
        y.clause(-1, 0, 9);
        y.clause(0, -1, 9);
        tries(y, 1, 1, NO);
        y.clause(0, 0, 9);
        tries(y, 9, 1, 1);
        tries(y, 10, 1, NO);
        y.rule(1, 1);
        tries(y, 9, 3, 1);
        tries(y, 10, 9, 2);
        tries(y, 27, 15, 3);
    }

    private static void firstOrder() {
        CutCity x = new CutCity();
        int[] visits = {1, 5, 2, 5, 4, 3};
        for (int v : visits) x.clause(0, 0, v);
        int[][] want = {{1, 0}, {2, 1}, {5, 1}, {6, 0, 1}, {7, 1, 2}, {9, 1, 3}, {10, 1, 3}, {11, 0, 1, 3}, {12, 1, 2, 3}, {14, 1, 3, 4}, {15, 0, 1, 3, 4}, {20, 0, 1, 2, 3, 4, 5}, {21}};
        for (int[] w : want) {
            int years = w.length - 1;
            due.is("53: the least YEAR to " + w[0], x.plan(w[0], ALL), years == 0 ? NO : years);
            for (int i = 0; i < years; i++) due.is("54: to " + w[0] + ", YEAR " + (i + 1), x.planned(w[0], i), w[1 + i]);
            due.is("54: to " + w[0] + ", behind", x.planned(w[0], years), years == 0 ? NO : NONE);
        }
    }
}
