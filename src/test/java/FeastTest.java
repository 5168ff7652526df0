/** Promises 49 to 54: feasts and clauses. */
public final class FeastTest {
    private static final int BAD = CutCity.BAD, NO = CutCity.NO, FULL = CutCity.FULL, SPENT = CutCity.SPENT, NONE = CutCity.NONE;
    private static final Due due = new Due("FeastTest");

    public static void main(String[] args) {
        arrivals();
        waits();
        sets();
        clauses();
        plans();
        spent();
        debts();
        orders();
        due.end();
    }

    private static void arrivals() {
        CutCity x = new CutCity();
        for (int gate = 0; gate < 8; gate++) {
            for (int hour = 0; hour < 13; hour++) due.is("49: at first", x.feast(gate, hour, gate + hour), 0);
        }
        for (int gate = 0; gate < 8; gate++) {
            for (int hour = 0; hour < 13; hour++) due.is("49: then", x.feast(gate, hour, 99), gate + hour);
        }
        due.is("49: gate", x.feast(8, 0, 1), BAD);
        due.is("49: gate", x.feast(-1, 0, 1), BAD);
        due.is("49: hour", x.feast(0, 13, 1), BAD);
        due.is("49: hour", x.feast(0, -1, 1), BAD);
        due.is("49: v", x.feast(0, 0, 100), BAD);
        due.is("49: v", x.feast(0, 0, -1), BAD);
        due.is("49: let", x.feast(0, 12, 100), BAD);
        due.is("49: unchanged", x.feast(0, 0, 0), 99);
    }

    private static void waits() {
        CutCity x = new CutCity();
        x.feast(3, 0, 10);
        due.is("50: none is let by", x.waiting(8), 120);
        due.is("50: goes to the next", x.waiting(16), 120);
        x.feast(3, 12, 4);
        due.is("50: 6, 2", x.waiting(8), 8);
        due.is("50: all open", x.waiting(255), 8);
        due.is("50: to 7", x.waiting(129), 120);
        x.feast(7, 12, 9);
        due.is("50: to 7", x.waiting(129), 1);
        due.is("50: 0 behind 7", x.waiting(5), 120);
        x.feast(0, 12, 10);
        due.is("50: 0 behind 7", x.waiting(5), 0);
        due.is("50: 0 behind 7, not 2", x.waiting(4), 120);
        x.feast(3, 0, 0);
        x.feast(7, 11, 99);
        due.is("50: the last hour", x.waiting(128), 90);
        x.feast(6, 11, 99);
        due.is("50: both", x.waiting(128), 189);
        due.is("50: each its own", x.waiting(192), 189);
        due.is("50: 0 has them all", x.waiting(1), 188);
        due.is("50: set", x.waiting(0), BAD);
        due.is("50: set", x.waiting(256), BAD);
        due.is("50: set", x.waiting(-1), BAD);
    }

    private static void sets() {
        CutCity x = new CutCity();
        due.is("51: nobody comes", x.gates(8), 1);
        x.feast(2, 0, 10);
        x.feast(5, 0, 10);
        x.feast(2, 12, 10);
        x.feast(5, 12, 10);
        due.is("51: one", x.gates(1), 4);
        due.is("51: two", x.gates(2), 36);
        due.is("51: more are no better", x.gates(8), 36);
        x.feast(1, 12, 99);
        due.is("51: one that is as good as two", x.gates(8), 2);
        x.feast(6, 12, 99);
        due.is("51: the least", x.gates(1), 2);
        x.feast(1, 12, 19);
        due.is("51: the one that is better", x.gates(1), 64);
        due.is("51: m", x.gates(0), BAD);
        due.is("51: m", x.gates(9), BAD);
    }

    private static void clauses() {
        CutCity x = new CutCity();
        due.is("52: worth", x.clause(-100, 0, 0), BAD);
        due.is("52: worth", x.clause(100, 0, 0), BAD);
        due.is("52: other", x.clause(0, -100, 0), BAD);
        due.is("52: other", x.clause(0, 100, 0), BAD);
        due.is("52: visits", x.clause(0, 0, -1), BAD);
        due.is("52: visits", x.clause(0, 0, 100), BAD);
        for (int i = 0; i < 7; i++) due.is("52: clause", x.clause(99 - i, -99 + i, 99), i);
        due.is("52: full", x.clause(0, 0, 0), FULL);
        due.is("52: bad ahead of full", x.clause(0, 0, 100), BAD);
        due.is("59: clauses", x.count(9), 7);
    }

    private static void plans() {
        CutCity x = new CutCity();
        due.is("53: n", x.plan(0, 1), BAD);
        due.is("53: n", x.plan(1000, 1), BAD);
        due.is("53: tries", x.plan(1, 0), BAD);
        due.is("53: tries", x.plan(1, 20001), BAD);
        due.is("53: no clause", x.plan(999, 20000), NO);
        x.clause(0, 0, 3);
        x.clause(0, 0, 0);
        x.clause(0, 0, 9);
        x.clause(0, 0, 5);
        due.is("53: one year", x.plan(9, 20000), 1);
        due.is("54: the only one", x.planned(9, 0), 2);
        due.is("54: not so many", x.planned(9, 1), NONE);
        due.is("53: one year", x.plan(1, 20000), 1);
        due.is("54: the first by numbers", x.planned(1, 0), 0);
        due.is("53: two years", x.plan(10, 20000), 2);
        due.is("54: the first by numbers", x.planned(10, 0), 0);
        due.is("54: the first by numbers", x.planned(10, 1), 2);
        due.is("54: not so many", x.planned(10, 2), NONE);
        due.is("54: not so many", x.planned(10, Integer.MAX_VALUE), NONE);
        due.is("53: two years", x.plan(14, 20000), 2);
        due.is("54: the first by numbers", x.planned(14, 0), 2);
        due.is("54: the first by numbers", x.planned(14, 1), 3);
        due.is("53: three years", x.plan(17, 20000), 3);
        due.is("53: too many", x.plan(18, 20000), NO);
        due.is("54: too many", x.planned(18, 0), NO);
        due.is("54: n", x.planned(0, 0), BAD);
        due.is("54: n", x.planned(1000, 0), BAD);
        due.is("54: i", x.planned(1, -1), BAD);
        due.is("54: i ahead of no", x.planned(18, -1), BAD);
    }

    /** How many tries all orders take: the edge between being spent and not. */
    private static void tries(CutCity x, int n, int tries, int want) {
        due.is("53: spent for " + n, x.plan(n, tries), want);
        due.is("53: spent for " + n, x.plan(n, tries - 1), tries == 1 ? BAD : SPENT);
    }

    private static void spent() {
        CutCity x = new CutCity();
        x.clause(0, 0, 1);
        tries(x, 1, 1, 1);
        tries(x, 2, 1, NO);
        x.clause(0, 0, 1);
        tries(x, 1, 2, 1);
        tries(x, 2, 4, 2);
        tries(x, 3, 4, NO);
        x.clause(0, 0, 5);
        tries(x, 5, 3 + 2 * 2 + 2, 1);
        tries(x, 6, 3 + 6 + 2, 2);
        tries(x, 99, 3 + 6 + 6, NO);
        for (int i = 3; i < 7; i++) x.clause(0, 0, 1);
        tries(x, 999, 7 + 42 + 210 + 840 + 2520 + 5040 + 5040, NO);
        due.is("54: never spent", x.planned(999, 0), NO);
    }

    private static void debts() {
        CutCity x = new CutCity();
        x.clause(-5, 9, 7);
        x.clause(5, -9, 1);
        due.is("53: neither may come first", x.plan(1, 1), NO);
        x.rule(1, 5);
        due.is("53: the first may", x.plan(7, 2), 1);
        due.is("53: and the second behind it", x.plan(8, 2), 2);
        due.is("54: then", x.planned(8, 1), 1);
        x.rule(1, 4);
        due.is("53: too much debt", x.plan(7, 20000), NO);
        x.rule(1, 9);
        due.is("53: both ways", x.plan(8, 3), SPENT);
        due.is("53: both ways", x.plan(8, 4), 2);
        CutCity y = new CutCity();
        y.clause(9, -1, 1);
        y.clause(0, 1, 1);
        due.is("53: the other side, too", y.plan(2, 20000), 2);
        due.is("54: in the order that may be", y.planned(2, 0), 1);
        due.is("54: in the order that may be", y.planned(2, 1), 0);
    }

    /** All orders of seven clauses, as the model goes through them. */
    private static void orders() {
        java.util.Random r = new java.util.Random(5);
        for (int run = 0; run < 30; run++) {
            CutCity x = new CutCity();
            Model m = new Model();
            for (int i = 0; i < 7; i++) {
                int worth = r.nextInt(60) - 25, other = r.nextInt(60) - 25, visits = r.nextInt(12);
                x.clause(worth, other, visits);
                m.clause(worth, other, visits);
            }
            int debt = r.nextInt(20);
            x.rule(1, debt);
            m.rule(1, debt);
            for (int n = 5; n < 60; n += 11) {
                due.is("53: run " + run, x.plan(n, 20000), m.plan(n, 20000));
                due.is("53: run " + run, x.plan(n, 900), m.plan(n, 900));
                for (int i = 0; i < 7; i++) due.is("54: run " + run, x.planned(n, i), m.planned(n, i));
            }
        }
    }
}
