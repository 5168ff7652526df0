/** The edges of promises 22 to 32, each on both sides; a call that is refused has changed nothing but where told. */
public final class LawEdgeTest {
    private static final int BAD = CutCity.BAD, NO = CutCity.NO, FULL = CutCity.FULL, NONE = CutCity.NONE, KIND = CutCity.KIND;
    private static final int MIN = Integer.MIN_VALUE, MAX = Integer.MAX_VALUE;
    private static final String[] KEYS = {"cross", "carry", "halt", "house", "pay"};
    private static final String[] NAMES = {"apkd", "wxa", "ish", "dfp", "n"};
    private static final Due due = new Due("LawEdgeTest");
    private static final Edges town = new Edges(due, Town::lay);

    public static void main(String[] args) {
        feed();
        trim();
        text();
        textsAreFull();
        faultAlone();
        keyWords();
        names();
        bytes();
        numbers();
        blanks();
        depths();
        comparisons();
        ends();
        wraps();
        of();
        strike();
        struckDays();
        counts();
        inForce();
        may();
        unlike();
        unlikeRooms();
        visits();
        changed();
        house();
        houses();
        due.end();
    }

    private static Edges with(Edges.Scene more) {
        return new Edges(due, x -> {
            Town.lay(x);
            more.lay(x);
        });
    }

    private static void feed() {
        Edges empty = with(x -> x.trim(0));
        for (int v : new int[] {0, -1, MIN, MAX}) empty.taken("22: any bytes", 12, x -> x.feed(v, v, v));
        int[] sizes = {0, 1, 83, 84};
        for (int size : sizes) room(size).taken("22: behind " + size, size + 12, x -> x.feed(1, 2, 3));
        for (int size = 85; size <= 96; size++) {
            room(size).refused("22: behind " + size, FULL, x -> x.feed(1, 2, 3));
        }
        room(96).refused("22: FULL", FULL, x -> x.feed(MIN, MAX, -1));
    }

    /** A tape of so many bytes, which are a text. */
    private static Edges room(int size) {
        return with(x -> {
            Town.tape(clear(x), "pay 1+2+3+4+5+6+7+8+9" + " ".repeat(75));
            x.trim(size);
        });
    }

    private static CutCity clear(CutCity x) {
        x.trim(0);
        return x;
    }

    private static void trim() {
        for (int n : new int[] {-1, 13, 96, 97, MIN, MAX}) town.refused("23: n of 12, " + n, BAD, x -> x.trim(n));
        for (int n : new int[] {0, 1, 11, 12}) {
            town.taken("23: n", n, x -> x.trim(n));
            town.then("23: so many bytes", n, x -> x.trim(n), x -> x.count(11));
        }
        with(x -> x.trim(0)).refused("23: of none", BAD, x -> x.trim(1));
        with(x -> x.trim(0)).taken("23: of none", 0, x -> x.trim(0));
        with(x -> x.trim(5)).refused("23: what was cut is gone", BAD, x -> x.trim(6));
        room(96).taken("23: all 96", 96, x -> x.trim(96));
        room(96).taken("23: 95 of 96", 95, x -> x.trim(95));
        room(96).refused("23: 97", BAD, x -> x.trim(97));
        CutCity y = new CutCity();
        y.feed(Feeder.four("pay ", 0), Feeder.four("7+8 ", 0), Feeder.four("))))", 0));
        y.trim(5);
        due.is("23: the first bytes", y.text(0, 0), 0);
        due.is("23: the first bytes", y.of(0, 4), 1);
    }

    private static void gone(CutCity x) {
        x.trim(0);
    }

    private static void text() {
        for (int side = 0; side < 2; side++) {
            int s = side;
            town.taken("24: SIDE " + s, 8, x -> x.text(s, 0));
            town.then("24: used up", 0, x -> x.text(s, 0), x -> x.count(11));
        }
        for (int v : new int[] {-1, 2, MIN, MAX}) town.refused("24: SIDE " + v, BAD, x -> x.text(v, 0), LawEdgeTest::gone);
        for (int day : new int[] {0, 1, 415, 416}) town.taken("24: DAY " + day, 8, x -> x.text(0, day));
        for (int v : new int[] {-1, 417, MIN, MAX}) town.refused("24: DAY " + v, BAD, x -> x.text(0, v), LawEdgeTest::gone);
        for (int day : new int[] {0, 416}) town.then("24: DAY " + day + " is told", day, x -> x.text(0, day), x -> x.of(8, 2));
        Edges faulty = with(x -> {
            Town.tape(clear(x), "pay n)");
            x.trim(6);
        });
        faulty.refused("24: FAULT", -105, x -> x.text(0, 0), LawEdgeTest::gone);
        faulty.refused("24: BAD ahead of a FAULT, side", BAD, x -> x.text(2, 0), LawEdgeTest::gone);
        faulty.refused("24: BAD ahead of a FAULT, day", BAD, x -> x.text(0, 417), LawEdgeTest::gone);
        with(x -> x.trim(0)).refused("24: an empty TAPE", -100, x -> x.text(0, 0));
    }

    private static void textsAreFull() {
        Edges.Scene eleven = x -> {
            x.trim(0);
            for (int i = 8; i < 11; i++) Town.law(x, i & 1, 9, "pay 1");
        };
        with(x -> {
            eleven.lay(x);
            Town.tape(x, "halt 1");
        }).taken("24: the 12th", 11, x -> x.text(1, 416));
        Edges.Scene twelve = x -> {
            eleven.lay(x);
            Town.law(x, 1, 9, "pay 1");
        };
        Edges full = with(x -> {
            twelve.lay(x);
            Town.tape(x, "halt 1");
        });
        full.refused("24: the 13th", FULL, x -> x.text(1, 416), LawEdgeTest::gone);
        full.refused("24: the 13th", FULL, x -> x.text(0, 0), LawEdgeTest::gone);
        full.refused("24: BAD ahead of FULL, side", BAD, x -> x.text(-1, 0), LawEdgeTest::gone);
        full.refused("24: BAD ahead of FULL, day", BAD, x -> x.text(0, -1), LawEdgeTest::gone);
        Edges faulty = with(x -> {
            twelve.lay(x);
            Town.tape(x, "halt )");
        });
        faulty.refused("24: a FAULT ahead of FULL", -105, x -> x.text(0, 0), LawEdgeTest::gone);
        with(twelve).refused("24: an empty TAPE ahead of FULL", -100, x -> x.text(0, 0));
        with(twelve).taken("25: the 12th", 4, x -> x.of(11, 0));
        with(twelve).refused("25: there is no 13th", BAD, x -> x.of(12, 0));
    }

    private static void fault(String word, int place) {
        due.is("24: '" + word + "'", Due.law(new CutCity(), 0, 0, word), place == NONE ? 0 : -100 - place);
    }

    /** The end comes too soon behind each beginning of a text that is none itself. */
    private static void faultAlone() {
        String all = " cross !(a + 12) * 3 < k & (p = 2 | !d)";
        for (int i = 0; i < all.length(); i++) {
            String word = all.substring(0, i);
            boolean text = word.equals(" cross !(a + 12)") || word.equals(" cross !(a + 12) ") || word.equals(" cross !(a + 12) * 3")
                || word.equals(" cross !(a + 12) * 3 ") || word.equals(" cross !(a + 12) * 3 < k") || word.equals(" cross !(a + 12) * 3 < k ");
            boolean inKey = i > 1 && i < 6;
            fault(word, text ? NONE : inKey ? 1 : i);
        }
        fault(all, NONE);
    }

    private static void keyWords() {
        for (int key = 0; key < 5; key++) {
            String word = KEYS[key];
            fault(word + " 1", NONE);
            fault(word, word.length());
            fault(word + "(1)", NONE);
            fault(word + "!1", NONE);
            fault(word + "1", word.length());
            fault(word + "s 1", 0);
            fault("s" + word + " 1", 0);
            fault(word.substring(1) + " 1", 0);
            for (int i = 1; i < word.length(); i++) {
                fault(word.substring(0, i) + " 1", 0);
                fault(word.substring(0, i) + " " + word.substring(i) + " 1", 0);
                fault(word.substring(0, i) + "z" + word.substring(i + 1) + " 1", 0);
            }
            fault((char) (word.charAt(0) - 32) + word.substring(1) + " 1", 0);
            fault("  " + word + " 1", NONE);
            fault("  " + word.substring(1) + " 1", 2);
            fault(word + " " + word, word.length() + 1);
        }
    }

    private static void names() {
        for (int key = 0; key < 5; key++) {
            for (char c = 'a'; c <= 'z'; c++) {
                fault(KEYS[key] + " " + c, NAMES[key].indexOf(c) >= 0 ? NONE : KEYS[key].length() + 1);
                fault(KEYS[key] + " 1+" + c + c, KEYS[key].length() + 3);
            }
        }
    }

    /** Each byte where a part has to come, and where a sign may come. */
    private static void bytes() {
        for (int b = 0; b < 256; b++) {
            char c = (char) b;
            boolean letter = c >= 'a' && c <= 'z', digit = c >= '0' && c <= '9', blank = c == ' ';
            boolean opens = c == '!' || c == '(', joins = "|&<=>+-*/".indexOf(c) >= 0;
            fault("pay " + c, digit || c == 'n' ? NONE : opens || blank ? 5 : 4);
            fault("pay n" + c, blank ? NONE : letter ? 4 : joins ? 6 : 5);
            fault("pay 1" + c, blank || digit ? NONE : joins ? 6 : 5);
            fault("pay (n)" + c, blank ? NONE : joins ? 8 : 7);
            fault("pay (n" + c, blank ? 7 : letter ? 5 : joins ? 7 : c == ')' ? NONE : 6);
            if (!letter) fault("pay" + c + "1", blank || opens ? opens && c == '(' ? 5 : NONE : 3);
        }
    }

    private static void numbers() {
        for (String ok : new String[] {"0", "9", "10", "99", "100", "999", "1000", "9999", "0000", "0009"}) fault("pay " + ok, NONE);
        for (String no : new String[] {"00000", "10000", "99999", "123456", "0000000000"}) fault("pay " + no, 4);
        fault("pay 1234 5", 9);
        fault("pay 1234+12345", 9);
        fault("pay 12345)", 4);
        fault("pay n12345", 5);
        for (int v : new int[] {0, 1, 9, 10, 99, 100, 999, 1000, 9999}) {
            CutCity x = new CutCity();
            x.meter(0, 0, 1);
            Town.law(x, 0, 0, "pay " + v);
            due.is("24: the NUMBER " + v, x.coin(0, 0), v);
        }
    }

    private static void blanks() {
        fault("pay n", NONE);
        fault(" ".repeat(91) + "pay n", NONE);
        fault("pay" + " ".repeat(92) + "n", NONE);
        fault("pay n" + " ".repeat(91), NONE);
        fault("pay" + " ".repeat(93), 96);
        fault(" ".repeat(96), 96);
        fault(" ".repeat(93) + "pay", 96);
        fault("pay n 1", 6);
        fault("pay 1 n", 6);
        fault("pay 1 1", 6);
        fault("pay n1", 5);
        fault("pay 1n", 5);
        fault("pay ( n ) + ! ( 1 )", NONE);
        fault("pay(n)+!(1)", NONE);
        fault("pa y n", 0);
    }

    private static void depths() {
        String eight = "((((((((", closed = "))))))))", nots = "!!!!!!!!";
        for (int n = 1; n < 12; n++) {
            fault("pay " + "(".repeat(n) + "n" + ")".repeat(n), n <= 8 ? NONE : 12);
            fault("pay " + "!".repeat(n) + "n", n <= 8 ? NONE : 12);
            fault("pay " + "(n+".repeat(n) + "n" + ")".repeat(n), n <= 8 ? NONE : 28);
            fault("pay " + "!(n+".repeat(n) + "n" + ")".repeat(n), n <= 8 ? NONE : 36);
            fault("pay " + "(".repeat(n), n <= 8 ? 4 + n : 12);
            fault("pay " + "!".repeat(n), n <= 8 ? 4 + n : 12);
        }
        fault("pay " + eight + "n" + closed + "*" + eight + "n" + closed, NONE);
        fault("pay " + eight + "n" + closed + "*(" + eight + "n" + closed + ")", 30);
        fault("pay " + eight + "n)*(n" + closed, NONE);
        fault("pay " + eight + "n)*((n" + closed + ")", 16);
        fault("pay " + eight + "n)))*(((n" + closed, NONE);
        fault("pay " + eight + "n)))*((((n" + closed + ")", 20);
        fault("pay " + eight + nots + "n" + closed, NONE);
        fault("pay " + nots + eight + "n" + closed, NONE);
        fault("pay " + nots + "n*" + nots + "n", NONE);
        fault("pay " + nots + "n*!" + nots + "n", 22);
        fault("pay " + nots + "(n*!n)", 15);
        fault("pay " + nots + "(n*(!n))", 16);
        fault("pay " + nots + "(n)*!n", NONE);
        fault("pay !(" + nots + "n)", 13);
        fault("pay !(!!!!!!!n*!!!!!!!n)", NONE);
        fault("pay !(!!!!!!!n*!!!!!!!!n)", 22);
        fault("pay !(n)" + "*!(n)".repeat(12), NONE);
        fault("pay (n)" + "*(n)".repeat(20), NONE);
        fault("pay n" + closed.substring(0, 1), 5);
        fault("pay " + eight + "n" + closed + ")", 21);
    }

    private static void comparisons() {
        for (char first : "<=>".toCharArray()) {
            for (char second : "<=>".toCharArray()) {
                fault("pay 1" + first + "n" + second + "1", 7);
                fault("pay 1" + first + "n+1*!n" + second + "1", 12);
                fault("pay (1" + first + "n)" + second + "1", NONE);
                fault("pay 1" + first + "(n" + second + "1)", NONE);
                fault("pay 1" + first + "n&1" + second + "n", NONE);
                fault("pay 1" + first + "n|1" + second + "n", NONE);
                fault("pay 1" + first + "n&1" + second + "n" + first + "1", 11);
                fault("pay 1" + first + second + "n", 6);
            }
        }
        for (char sign : "|&+-*/".toCharArray()) fault("pay 1" + sign + "n" + sign + "2" + sign + "n", NONE);
        for (char sign : "|&<=>+-*/)".toCharArray()) fault("pay " + sign + "n", 4);
        for (char sign : "|&<=>+-*/)".toCharArray()) fault("pay n+" + sign + "n", 6);
    }

    /** Texts of 95 and 96 bytes, and what may stand in the last one. */
    private static void ends() {
        String long95 = "pay " + "1+".repeat(45) + "1";
        fault(long95, NONE);
        fault(long95 + " ", NONE);
        fault(long95 + "1", NONE);
        fault(long95 + "+", 96);
        fault(long95 + "n", 95);
        fault(long95 + ")", 95);
        fault(long95 + "(", 95);
        fault(long95 + (char) 255, 95);
        fault("pay " + "1+".repeat(46), 96);
        fault("pay  " + "1+".repeat(45) + "n", NONE);
        fault("pay (" + "1+".repeat(45) + "1", 96);
        fault("pay (" + "1+".repeat(44) + "11)", NONE);
        CutCity x = new CutCity();
        Due.law(x, 0, 0, "pay  " + "1+".repeat(45) + "n");
        due.is("25: 46 NUMBERS and NAMES", x.of(0, 4), 46);
        x.meter(0, 0, 1);
        x.put(0, 0, 55);
        due.is("24: all of 96 bytes count", x.coin(0, 0), 100);
        CutCity y = new CutCity();
        Due.law(y, 0, 0, "pay !!!!!!!!((((((((1|2&3<4+5*n))))))))");
        y.meter(0, 0, 1);
        due.is("24: all levels at once", y.coin(0, 0), 1);
        due.is("25: six", y.of(0, 4), 6);
    }

    private static void worth(String word, int n, int want) {
        CutCity x = new CutCity();
        x.meter(0, 0, 1);
        x.put(0, 0, n);
        Due.law(x, 0, 0, "pay " + word);
        due.is("24: " + word + " for " + n, x.coin(0, 0), want);
    }

    private static void wraps() {
        worth("n+1", MAX - 1, MAX);
        worth("n+1", MAX, MIN);
        worth("n-1", MIN + 1, MIN);
        worth("n-1", MIN, MAX);
        worth("n+n", 1 << 30, MIN);
        worth("n+n", (1 << 30) - 1, MAX - 1);
        worth("0-n", MIN, MIN);
        worth("n*n", 46340, 2147395600);
        worth("n*n", 46341, -2147479015);
        worth("n*(0-1)", MIN, MIN);
        worth("9999*9999*9999", 0, 9999 * 9999 * 9999);
        worth("n/(0-1)", MIN, MIN);
        worth("n/(0-1)", MIN + 1, MAX);
        worth("n/0", MIN, 0);
        worth("n/0", MAX, 0);
        worth("n/0", -1, 0);
        worth("0/n", 0, 0);
        worth("7/(n-n)", 9, 0);
        worth("n/2", 1, 0);
        worth("n/2", -1, 0);
        worth("n/2", -2, -1);
        worth("n/2", -3, -1);
        worth("n<n+1", MAX, 0);
        worth("n<n+1", MAX - 1, 1);
        worth("n<0", -1, 1);
        worth("n<0", 0, 0);
        worth("n>0", 0, 0);
        worth("n>0", 1, 1);
        worth("n=0", 0, 1);
        worth("n=0", -1, 0);
        worth("!n", 0, 1);
        worth("!n", -1, 0);
        worth("!n", MIN, 0);
        worth("n|0", MIN, 1);
        worth("n&1", MIN, 1);
        worth("n&1", 2, 1);
        worth("1/n|1", 0, 1);
        worth("0&1/n", 0, 0);
    }

    private static void of() {
        town.range("25: TEXT", 0, 0, 7, 1, BAD, (x, v) -> x.of(v, 1));
        town.range("25: what", 0, 0, 4, 2, BAD, (x, v) -> x.of(0, v));
        int[][] want = {
            {0, 0, 0, NONE, 2}, {0, 1, 0, NONE, 1}, {1, 0, 0, NONE, 2}, {1, 1, 0, NONE, 1},
            {2, 0, 0, NONE, 2}, {3, 1, 0, NONE, 2}, {4, 0, 0, NONE, 2}, {0, 1, 3, 1, 1}};
        for (int i = 0; i < 8; i++) {
            for (int k = 0; k < 5; k++) {
                int text = i, what = k;
                town.taken("25: " + i + " " + k, want[i][k], x -> x.of(text, what));
            }
        }
    }

    private static void strike() {
        for (int i = 0; i < 7; i++) {
            int text = i;
            town.taken("26: TEXT " + i, 1, x -> x.strike(text));
            with(x -> x.strike(text)).refused("26: it is struck, " + i, NO, x -> x.strike(text));
        }
        town.refused("26: it is struck", NO, x -> x.strike(Town.STRUCK));
        with(x -> x.run(30)).refused("26: it is struck, a day later", NO, x -> x.strike(Town.STRUCK));
        for (int v : new int[] {-1, 8, 12, MIN, MAX}) town.refused("26: TEXT " + v, BAD, x -> x.strike(v));
    }

    /** Struck in an hour, a text counts till that day's last hour. */
    private static void struckDays() {
        for (int hour : new int[] {0, 1, 22, 23, 24, 47}) {
            CutCity x = new CutCity();
            Town.law(x, 0, 0, "pay 1");
            if (hour > 0) x.run(hour);
            x.strike(0);
            int last = hour / 24 * 24 + 23;
            due.is("26: struck in " + hour, x.of(0, 3), hour / 24 + 1);
            due.is("26: struck in " + hour + ", counts", x.counts(0, 4), 0);
            if (last > hour) x.run(last - hour);
            due.is("26: struck in " + hour + ", counts in the last hour", x.counts(0, 4), 0);
            x.run(1);
            due.is("26: struck in " + hour + ", not the next day", x.counts(0, 4), NONE);
        }
        CutCity x = new CutCity();
        Town.law(x, 0, 1, "pay 1");
        x.strike(0);
        x.run(24);
        due.is("26: struck ahead of its DAY", x.counts(0, 4), NONE);
    }

    private static void counts() {
        town.range("27: SIDE", 0, 0, 1, 1, BAD, (x, v) -> x.counts(v, 0));
        town.range("27: KEY", 0, 0, 4, 6, BAD, (x, v) -> x.counts(0, v));
        int[][] want = {{0, 2, 4, NONE, 6}, {1, 3, NONE, 5, NONE}};
        for (int i = 0; i < 2; i++) {
            for (int k = 0; k < 5; k++) {
                int side = i, key = k;
                if (want[i][k] == NONE) town.refused("27: none of " + i + " " + k, NONE, x -> x.counts(side, key));
                else town.taken("27: of " + i + " " + k, want[i][k], x -> x.counts(side, key));
            }
        }
    }

    private static void inForce() {
        for (int day : new int[] {0, 1, 2, 7}) {
            CutCity x = new CutCity();
            Town.law(x, 1, day, "halt 1");
            if (day > 0) {
                for (int i = 1; i < day; i++) x.run(24);
                x.run(23);
                due.is("27: the last hour ahead of DAY " + day, x.counts(1, 2), NONE);
                x.run(1);
            }
            due.is("27: the first hour of DAY " + day, x.counts(1, 2), 0);
        }
        CutCity x = new CutCity();
        int[] days = {1, 0, 1, 0, 2, 2, 1};
        for (int day : days) Town.law(x, 0, day, "house 1");
        due.is("27: DAY 0, the greatest of two", x.counts(0, 3), 3);
        x.run(24);
        due.is("27: DAY 1, the greatest of three", x.counts(0, 3), 6);
        x.strike(5);
        x.run(24);
        due.is("27: DAY 2, the one that is not struck", x.counts(0, 3), 4);
        x.strike(4);
        x.run(24);
        due.is("27: those of DAY 2 are struck", x.counts(0, 3), 6);
        x.strike(6);
        x.strike(2);
        x.strike(1);
        x.run(24);
        due.is("27: one of DAY 1 is left", x.counts(0, 3), 0);
        x.strike(0);
        x.run(24);
        due.is("27: one of DAY 0 is left", x.counts(0, 3), 3);
        x.strike(3);
        x.run(24);
        due.is("27: none is", x.counts(0, 3), NONE);
    }

    private static void may() {
        town.range("28: SIDE", 0, 1, 1, BAD, (x, v) -> x.may(Town.PASS, v));
        int[] none = {Town.PLAIN, Town.STREET, Town.LINE, Town.PIPE, Town.WIRE, Town.KIN, Town.PARCEL, Town.CUT, 12, 40, -1, MIN, MAX};
        for (int v : none) town.refused("28: no PASS " + v, BAD, x -> x.may(v, 0));
        for (int v : new int[] {Town.USED, Town.PASS, Town.TAKEN, Town.ASKED}) town.taken("28: PASS " + v, 1, x -> x.may(v, 1));
        town.then("28: a=89", 1, x -> x.be(0, 1, 89), x -> x.may(Town.PASS, 0));
        town.then("28: a=90", 0, x -> x.be(0, 1, 90), x -> x.may(Town.PASS, 0));
        town.then("28: a=90, of the other SIDE", 1, x -> x.be(0, 1, 90), x -> x.may(Town.PASS, 1));
        town.then("28: w=49", 1, x -> x.parcel(Town.PASS, 49, 0), x -> x.may(Town.PASS, 0));
        town.then("28: w=50", 0, x -> x.parcel(Town.PASS, 50, 0), x -> x.may(Town.PASS, 0));
        String[] words = {"cross k=3", "cross k=9", "cross p=0", "cross d=0", "cross d=6"};
        int[] want = {1, 0, 1, 1, 0};
        for (int i = 0; i < words.length; i++) {
            String word = words[i];
            town.then("28: " + word, want[i], x -> Town.law(clear(x), 0, 0, word), x -> x.may(Town.PASS, 0));
        }
        Edges weekly = new Edges(due, x -> {
            for (int i = 0; i < 2; i++) x.person(x.cell(i), 1, 1);
            x.pass(0, 1, 1, 0);
            Town.law(x, 0, 0, "cross 6-d");
        });
        for (int day = 0; day < 15; day++) {
            int d = day;
            weekly.then("28: the DAY's rest, " + d, d % 7 == 6 ? 0 : 1, x -> d == 0 ? 0 : days(x, d), x -> x.may(0, 0));
        }
    }

    private static int days(CutCity x, int days) {
        for (int i = 0; i < days; i++) x.run(24);
        return x.count(12);
    }

    private static void unlike() {
        for (int text : new int[] {Town.CROSS, Town.CROSS_OF_1, Town.STRUCK}) {
            town.taken("29: of itself", 0, x -> x.unlike(text, text, 0));
            town.taken("29: of itself", NONE, x -> x.unlike(text, text, 1));
        }
        town.range("29: what", 0, 400, 1, 9000, BAD, (x, v) -> x.unlike(0, 1, v));
        for (int v : new int[] {-1, 8, 12, MIN, MAX}) {
            town.refused("29: one " + v, BAD, x -> x.unlike(v, 0, 0));
            town.refused("29: the other " + v, BAD, x -> x.unlike(0, v, 1));
            town.refused("29: BAD ahead of KIND", BAD, x -> x.unlike(v, Town.CARRY, 0));
            town.refused("29: BAD ahead of KIND", BAD, x -> x.unlike(Town.CARRY, v, 0));
        }
        for (int v = Town.CARRY; v <= Town.PAY; v++) {
            int text = v;
            for (int what = 0; what < 2; what++) {
                int w = what;
                town.refused("29: of another KEY, one", KIND, x -> x.unlike(text, 0, w));
                town.refused("29: of another KEY, the other", KIND, x -> x.unlike(0, text, w));
                town.refused("29: of another KEY, both", KIND, x -> x.unlike(text, text, w));
            }
            town.refused("29: BAD ahead of KIND, what", BAD, x -> x.unlike(text, 0, 2));
        }
    }

    /** How many are unlike for a text and one that lets nobody, and the least of them. */
    private static void unlikeRooms() {
        String[] words = {"a=0", "a=99", "a=100", "a>98", "a>99", "p=0", "p=3", "p=4", "p>2", "p>3", "k=0", "k=9", "k=10", "k>8", "k>9",
            "a+p+k=0", "a+p+k=111", "a+p+k>111", "a=99&k=9", "a=99&p=3", "p=3&k=9", "d=0", "d", "1", "0", "0-1"};
        int[] many = {40, 40, 0, 40, 0, 1000, 1000, 0, 1000, 0, 400, 400, 0, 400, 0, 1, 1, 0, 4, 10, 100, 4000, 0, 4000, 0, 4000};
        int[] least = {0, 9900, NONE, 9900, NONE, 0, 30, NONE, 30, NONE, 0, 9, NONE, 9, NONE, 0, 9939, NONE, 9909, 9930, 39, 0, NONE, 0, NONE, 0};
        for (int i = 0; i < words.length; i++) {
            CutCity x = new CutCity();
            Due.law(x, 0, 0, "cross " + words[i]);
            Due.law(x, 1, 416, "cross 0");
            for (int k = 0; k < 2; k++) {
                due.is("29: how many of " + words[i], x.unlike(k, 1 - k, 0), many[i]);
                due.is("29: the least of " + words[i], x.unlike(k, 1 - k, 1), least[i]);
            }
        }
        CutCity x = new CutCity();
        Due.law(x, 0, 0, "cross d=6");
        Due.law(x, 0, 0, "cross 0");
        for (int day = 0; day < 9; day++) {
            due.is("29: on DAY " + day, x.unlike(0, 1, 0), day == 6 ? 4000 : 0);
            due.is("29: on DAY " + day, x.unlike(1, 0, 1), day == 6 ? 0 : NONE);
            x.run(24);
        }
    }

    private static void visits() {
        town.range("30: SIDE", 0, 4, 1, 4, BAD, (x, v) -> x.visits(v));
        town.then("30: AGE 89", 4, x -> x.be(0, 1, 89), x -> x.visits(0));
        town.then("30: AGE 90", 2, x -> x.be(0, 1, 90), x -> x.visits(0));
        town.then("30: who died", 2, x -> x.die(0), x -> x.visits(0));
        town.then("30: who died", 2, x -> x.die(0), x -> x.visits(1));
        town.then("30: PARCELS do nothing", 4, x -> x.parcel(Town.PASS, 50, 0), x -> x.visits(0));
        for (int text = 0; text < 2; text++) {
            int t = text;
            for (int side = 0; side < 2; side++) {
                int s = side;
                with(x -> x.strike(t)).then("30: on the last hour of the DAY", 4, x -> x.run(22), x -> x.visits(s));
                with(x -> x.strike(t)).then("30: without a TEXT of " + t, 0, x -> x.run(23), x -> x.visits(s));
            }
        }
        String[] words = {"cross k=3", "cross k=4", "cross d=0", "cross d=1", "cross p=3"};
        int[][] want = {{1, 1}, {0, 0}, {4, 4}, {0, 0}, {0, 2}};
        for (int i = 0; i < words.length; i++) {
            for (int side = 0; side < 2; side++) {
                String word = words[i];
                int s = side;
                town.then("30: " + word, want[i][s], x -> Town.law(clear(x), 1, 0, word), x -> x.visits(s));
            }
        }
        for (int day = 0; day < 15; day++) {
            int d = day;
            Edges weekly = new Edges(due, x -> {
                for (int i = 0; i < 2; i++) x.person(x.cell(i), 1, 1);
                Town.law(x, 0, 0, "cross 1");
                Town.law(x, 1, 0, "cross d=" + d % 7);
                if (d > 0) days(x, d);
            });
            weekly.taken("30: the DAY's rest, " + d, 1, x -> x.visits(0));
            weekly.taken("31: the DAY's rest, " + d, 0, x -> x.changed(1));
            weekly.then("30: not the next one, " + d, 0, x -> x.run(24), x -> x.visits(0));
        }
    }

    private static void changed() {
        town.taken("31: it counts", 0, x -> x.changed(Town.CROSS));
        town.taken("31: it counts", 0, x -> x.changed(Town.CROSS_OF_1));
        town.taken("31: it is struck", -2, x -> x.changed(Town.STRUCK));
        for (int v = Town.CARRY; v <= Town.PAY; v++) {
            int text = v;
            town.refused("31: of another KEY " + v, KIND, x -> x.changed(text));
        }
        for (int v : new int[] {-1, 8, 12, MIN, MAX}) town.refused("31: TEXT " + v, BAD, x -> x.changed(v));
        Edges free = with(x -> Town.law(clear(x), 0, 416, "cross 1"));
        free.taken("31: none more", 0, x -> x.changed(8));
        free.then("31: more", 2, x -> x.be(0, 1, 90), x -> x.changed(8));
        with(x -> Town.law(clear(x), 0, 416, "cross 0")).taken("31: all fewer", -8, x -> x.changed(8));
        with(x -> x.strike(Town.CROSS_OF_1)).then("31: without a TEXT of 1", 0, x -> x.run(23), x -> x.changed(Town.CROSS));
        with(x -> x.strike(Town.CROSS)).then("31: without a TEXT of 0, one of 0", 8, x -> x.run(23), x -> x.changed(Town.CROSS));
        with(x -> x.strike(Town.CROSS)).then("31: without a TEXT of 0, one of 1", 0, x -> x.run(23), x -> x.changed(Town.CROSS_OF_1));
    }

    private static void house() {
        town.range("32: SIDE", 0, 0, 1, 1, BAD, (x, v) -> x.house(v, 0, 0, 0));
        town.range("32: DOORS", 0, 1, 99, 1, BAD, (x, v) -> x.house(1, v, 0, 0));
        town.range("32: FLOORS", 0, 1, 99, 1, BAD, (x, v) -> x.house(1, 0, v, 0));
        town.range("32: PIPES", 0, 1, 99, 1, BAD, (x, v) -> x.house(1, 0, 0, v));
        town.taken("32: d=1", 0, x -> x.house(1, 10, 0, 0));
        town.taken("32: d=0", 1, x -> x.house(1, 11, 0, 0));
        town.taken("32: d=9", 0, x -> x.house(1, 90, 80, 0));
        town.taken("32: f=9", 1, x -> x.house(1, 80, 90, 0));
        town.taken("32: without a TEXT", 0, x -> x.house(0, 9, 90, 0));
    }

    /** E of exactly -1, 0, 1 by each name, for each side's law. */
    private static void houses() {
        for (int side = 0; side < 2; side++) {
            for (int k = 0; k < 3; k++) {
                for (int v = -9; v <= 9; v++) {
                    CutCity x = new CutCity();
                    Town.law(x, side, 0, "house " + "dfp".charAt(k) + (v < 0 ? "+" : "-") + Math.abs(v));
                    for (int d = v - 1; d <= v + 1; d++) {
                        if (d < -9 || d > 9) continue;
                        int told = d < 0 ? -d : 10 * d;
                        int want = d > v ? 0 : d < v ? 1 : side;
                        due.is("32: " + "dfp".charAt(k) + " is " + d + " with " + v, x.house(side, k == 0 ? told : 7, k == 1 ? told : 70, k == 2 ? told : 44), want);
                    }
                }
            }
        }
    }
}
