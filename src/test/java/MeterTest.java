/** Promises 41 to 48: meters, what is owed, and rules. */
public final class MeterTest {
    private static final int BAD = CutCity.BAD, NONE = CutCity.NONE, NOTHING = CutCity.NOTHING, KIND = CutCity.KIND;
    private static final int INDEX = CutCity.INDEX, SIZE = CutCity.SIZE, MIN = Integer.MIN_VALUE, MAX = Integer.MAX_VALUE;
    private static final Due due = new Due("MeterTest");

    public static void main(String[] args) {
        meters();
        puts();
        reads();
        copies();
        wrongs();
        owed();
        bounds();
        coins();
        rules();
        due.end();
    }

    private static void meters() {
        CutCity x = new CutCity();
        due.is("41: missing at first", x.read(0, 0), NOTHING);
        due.is("41: missing at first", x.read(1, 0), NOTHING);
        due.is("41: side", x.meter(2, 0, 1), BAD);
        due.is("41: side", x.meter(-1, -1, 1), BAD);
        due.is("41: sort", x.meter(0, 2, 1), BAD);
        due.is("41: sort", x.meter(0, -2, 1), BAD);
        due.is("41: sort ahead of size", x.meter(0, 2, -1), BAD);
        due.is("41: n", x.meter(0, 0, 31), BAD);
        due.is("41: n", x.meter(0, 1, MAX), BAD);
        due.is("41: size", x.meter(0, 0, -1), SIZE);
        due.is("41: size", x.meter(0, 1, MIN), SIZE);
        due.is("41: still missing", x.put(0, 0, 1), NOTHING);
        due.is("41: ints", x.meter(0, 0, 30), 30);
        due.is("41: all 0", x.read(0, 29), 0);
        due.is("41: put", x.put(0, 29, 8), 1);
        due.is("41: refused", x.meter(0, 0, -1), SIZE);
        due.is("41: unchanged", x.read(0, 29), 8);
        due.is("41: anew", x.meter(0, 1, 30), 30);
        due.is("41: all 0", x.read(0, 29), 0);
        due.is("41: no days", x.meter(0, 1, 0), 0);
        due.is("41: no days", x.read(0, 0), INDEX);
        due.is("41: missing, n any", x.meter(0, -1, MIN), 0);
        due.is("41: missing, n any", x.meter(0, -1, 31), 0);
        due.is("41: missing", x.read(0, 0), NOTHING);
    }

    private static void puts() {
        CutCity x = new CutCity();
        due.is("42: side", x.put(2, 0, 0), BAD);
        due.is("42: side", x.put(-1, 0, 0), BAD);
        due.is("42: nothing", x.put(0, -1, NONE), NOTHING);
        x.meter(0, 0, 3);
        x.meter(1, 1, 3);
        due.is("42: index", x.put(0, 3, NONE), INDEX);
        due.is("42: index", x.put(1, -1, MAX), INDEX);
        due.is("42: index", x.put(1, MIN, 0), INDEX);
        due.is("42: kind", x.put(0, 2, NONE), KIND);
        for (int v : new int[] {MIN, MAX, CutCity.BAD, CutCity.KIND, -1}) {
            due.is("42: any int", x.put(0, 2, v), 1);
            due.is("43: any int", x.read(0, 2), v);
        }
        for (int v : new int[] {-100000, 100000, 1, -1, 3}) {
            due.is("42: quarters", x.put(1, 2, v), 1);
            due.is("43: quarters", x.read(1, 2), v);
        }
        for (int v : new int[] {-100001, 100001, MIN, MAX, BAD}) due.is("42: v", x.put(1, 2, v), BAD);
        due.is("42: unchanged", x.read(1, 2), 3);
    }

    private static void reads() {
        CutCity x = new CutCity();
        due.is("43: side", x.read(2, 0), BAD);
        due.is("43: side", x.read(-1, 0), BAD);
        x.meter(1, 1, 6);
        due.is("43: index", x.read(1, 6), INDEX);
        due.is("43: index", x.read(1, -1), INDEX);
        for (int i = 0; i < 6; i++) x.put(1, i, NONE);
        due.is("43: no number", x.read(1, 0), KIND);
        due.is("43: no number", x.read(1, 5), KIND);
        x.put(1, 2, 0);
        due.is("43: ahead of it none", x.read(1, 1), KIND);
        due.is("43: a 0 is one", x.read(1, 2), 0);
        x.put(1, 2, -9);
        due.is("43: as the day ahead", x.read(1, 3), -9);
        due.is("43: again and again", x.read(1, 5), -9);
        x.put(1, 4, 4);
        due.is("43: as the day ahead", x.read(1, 3), -9);
        due.is("43: as the day ahead", x.read(1, 5), 4);
    }

    private static void copies() {
        CutCity x = new CutCity();
        due.is("44: from", x.copy(2, 0, 0, 0, 0), BAD);
        due.is("44: to", x.copy(0, 0, -1, 0, 0), BAD);
        due.is("44: nothing", x.copy(0, 0, 1, 0, -1), NOTHING);
        x.meter(0, 0, 4);
        due.is("44: nothing", x.copy(0, 0, 1, 0, 0), NOTHING);
        due.is("44: nothing", x.copy(1, 0, 0, 0, 0), NOTHING);
        x.meter(1, 1, 4);
        due.is("44: kind", x.copy(0, 9, 1, 0, -1), KIND);
        x.meter(1, 0, 6);
        for (int i = 0; i < 4; i++) x.put(0, i, 10 + i);
        due.is("44: below 0", x.copy(0, 0, 1, 0, -1), INDEX);
        due.is("44: day", x.copy(0, -1, 1, 0, 1), INDEX);
        due.is("44: at", x.copy(0, 0, 1, -1, 1), INDEX);
        due.is("44: day", x.copy(0, 4, 1, 0, 1), INDEX);
        due.is("44: at", x.copy(0, 0, 1, 6, 1), INDEX);
        due.is("44: many", x.copy(0, 1, 1, 0, 4), INDEX);
        due.is("44: many", x.copy(0, 0, 1, 3, 4), INDEX);
        due.is("44: many", x.copy(0, 1, 1, 1, MAX), INDEX);
        due.is("44: day", x.copy(0, MAX, 1, 0, 1), INDEX);
        due.is("44: at", x.copy(0, 0, 1, MAX, 2), INDEX);
        due.is("44: none, behind the last", x.copy(0, 4, 1, 6, 0), 0);
        due.is("44: none, further on", x.copy(0, 5, 1, 0, 0), INDEX);
        due.is("44: none, further on", x.copy(0, 0, 1, 7, 0), INDEX);
        due.is("44: none, ahead", x.copy(0, -1, 1, 0, 0), INDEX);
        due.is("44: copy", x.copy(0, 1, 1, 2, 3), 3);
        int[] want = {0, 0, 11, 12, 13, 0};
        for (int i = 0; i < 6; i++) due.is("44: copied", x.read(1, i), want[i]);
        due.is("44: the same, onwards", x.copy(1, 2, 1, 3, 3), 3);
        want = new int[] {0, 0, 11, 11, 12, 13};
        for (int i = 0; i < 6; i++) due.is("44: as they were", x.read(1, i), want[i]);
        due.is("44: the same, backwards", x.copy(1, 3, 1, 1, 3), 3);
        want = new int[] {0, 11, 12, 13, 12, 13};
        for (int i = 0; i < 6; i++) due.is("44: as they were", x.read(1, i), want[i]);
        x.meter(0, 1, 2);
        x.meter(1, 1, 3);
        x.put(0, 0, 5);
        x.put(0, 1, NONE);
        due.is("44: floats", x.copy(0, 1, 1, 0, 1), 1);
        due.is("44: no number is copied", x.read(1, 0), KIND);
        due.is("44: floats", x.copy(0, 0, 1, 1, 2), 2);
        due.is("44: no number is copied", x.read(1, 2), 5);
        x.put(1, 1, 6);
        due.is("44: still no number", x.read(1, 2), 6);
    }

    private static void wrongs() {
        CutCity x = new CutCity();
        due.is("45: side", x.wrong(2, 0), BAD);
        due.is("45: side", x.wrong(-1, NONE), BAD);
        due.is("45: day", x.wrong(0, 30), BAD);
        due.is("45: day", x.wrong(0, -1), BAD);
        due.is("45: none at first", x.wrong(0, 29), NONE);
        due.is("45: then", x.wrong(0, 0), 29);
        due.is("45: then", x.wrong(0, NONE), 0);
        due.is("45: then", x.wrong(0, NONE), NONE);
        x.meter(0, 0, 4);
        x.meter(1, 0, 4);
        for (int i = 0; i < 4; i++) {
            x.put(0, i, 100);
            x.put(1, i, 108);
        }
        x.wrong(0, 2);
        due.is("46: ahead", x.owed(1), 104);
        due.is("46: from then on", x.owed(2), 108);
        due.is("46: and on", x.owed(3), 108);
        x.wrong(1, 3);
        due.is("46: the other alone", x.owed(2), 108);
        due.is("46: neither", x.owed(3), NONE);
        x.meter(1, -1, 0);
        due.is("46: missing", x.owed(2), NONE);
        due.is("46: one alone", x.owed(1), 100);
    }

    private static int owed(int one, int other, int bound) {
        CutCity x = new CutCity();
        x.meter(0, 0, 1);
        x.meter(1, 0, 1);
        x.put(0, 0, one);
        x.put(1, 0, other);
        x.rule(0, bound);
        return x.owed(0);
    }

    private static void owed() {
        CutCity x = new CutCity();
        due.is("46: none", x.owed(0), NONE);
        due.is("46: day", x.owed(30), BAD);
        due.is("46: day", x.owed(-1), BAD);
        x.meter(1, 1, 3);
        x.put(1, 0, NONE);
        due.is("46: no number", x.owed(0), NONE);
        due.is("46: one alone", x.owed(1), 0);
        due.is("46: too late", x.owed(3), NONE);
        x.meter(0, 0, 4);
        x.put(0, 0, 44);
        due.is("46: one alone", x.owed(0), 44);
        x.put(0, 3, 45);
        due.is("46: one alone", x.owed(3), 45);
        x.put(1, 1, 40);
        x.put(1, 2, NONE);
        x.put(0, 2, 44);
        due.is("46: as the day ahead", x.owed(2), 42);
    }

    private static void bounds() {
        due.is("46: 100, 110", owed(100, 110, 10), 105);
        due.is("46: 110, 100", owed(110, 100, 10), 105);
        due.is("46: 100, 111", owed(100, 111, 10), 100);
        due.is("46: 99, 108", owed(99, 108, 10), 103);
        due.is("46: 99, 109", owed(99, 109, 10), 99);
        due.is("46: -100, -90", owed(-100, -90, 10), -95);
        due.is("46: -100, -89", owed(-89, -100, 10), -100);
        due.is("46: cut towards 0", owed(-101, -100, 10), -100);
        due.is("46: cut towards 0", owed(101, 100, 10), 100);
        due.is("46: the same", owed(7, 7, 0), 7);
        due.is("46: bound 0", owed(7, 8, 0), 7);
        due.is("46: bound 100", owed(7, 14, 100), 10);
        due.is("46: bound 100", owed(7, 15, 100), 7);
        due.is("46: both signs", owed(-10, 0, 100), -5);
        due.is("46: both signs", owed(-10, 1, 100), -10);
        due.is("46: 0", owed(0, 0, 0), 0);
        due.is("46: 0", owed(0, 1, 100), 0);
        due.is("46: large", owed(MAX, MAX, 0), MAX);
        due.is("46: large", owed(MAX, MIN, 100), MIN);
        due.is("46: large", owed(MIN, -1, 100), -1073741824);
        due.is("46: large", owed(MIN, 0, 100), -1073741824);
        due.is("46: large", owed(MIN, 0, 99), MIN);
        due.is("46: large", owed(2000000000, MAX, 8), 2073741823);
        due.is("46: large", owed(2000000000, MAX, 7), 2000000000);
    }

    private static void coins() {
        CutCity x = new CutCity();
        due.is("47: none", x.coin(0, 0), NONE);
        x.meter(0, 0, 2);
        x.put(0, 0, 50);
        due.is("47: no text", x.coin(0, 0), 0);
        Due.law(x, 1, 0, "pay n*3/2");
        Due.law(x, 0, 1, "pay n>9");
        due.is("47: of 1", x.coin(1, 0), 75);
        due.is("47: the last day", x.coin(1, 29), NONE);
        due.is("47: of 0 not in force", x.coin(0, 0), 0);
        x.run(24);
        due.is("47: of 0", x.coin(0, 0), 1);
        due.is("47: of 0", x.coin(0, 1), 0);
        due.is("47: none", x.coin(0, 2), NONE);
        due.is("47: side", x.coin(2, 0), BAD);
        due.is("47: side", x.coin(-1, 0), BAD);
        due.is("47: day", x.coin(0, 30), BAD);
        due.is("47: day", x.coin(0, -1), BAD);
        x.meter(1, 0, 1);
        x.put(0, 0, NONE - 1);
        x.put(1, 0, NONE + 1);
        due.is("46: a middle that looks like none", x.owed(0), NONE);
        due.is("47: is a number all the same", x.coin(1, 0), NONE * 3 / 2);
    }

    private static void rules() {
        CutCity x = new CutCity();
        due.is("48: bound", x.rule(0, 100), 10);
        due.is("48: bound", x.rule(0, 0), 100);
        due.is("48: debt", x.rule(1, 999), 0);
        due.is("48: debt", x.rule(1, 5), 999);
        due.is("48: bound", x.rule(0, 101), BAD);
        due.is("48: bound", x.rule(0, -1), BAD);
        due.is("48: debt", x.rule(1, 1000), BAD);
        due.is("48: debt", x.rule(1, -1), BAD);
        due.is("48: what", x.rule(2, 1), BAD);
        due.is("48: what", x.rule(-1, 1), BAD);
        due.is("48: unchanged", x.rule(0, 1), 0);
        due.is("48: unchanged", x.rule(1, 1), 5);
    }
}
