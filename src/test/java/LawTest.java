/** Promises 22 to 32: the tape, texts, what they are worth, what they let. */
public final class LawTest {
    private static final int BAD = CutCity.BAD, NO = CutCity.NO, FULL = CutCity.FULL, NONE = CutCity.NONE, KIND = CutCity.KIND;
    private static final Due due = new Due("LawTest");

    public static void main(String[] args) {
        tapes();
        texts();
        faults();
        depths();
        worths();
        ofTexts();
        counting();
        mays();
        unlikes();
        visits();
        houses();
        due.end();
    }

    private static void tapes() {
        CutCity x = new CutCity();
        for (int i = 1; i <= 8; i++) due.is("22: feed", x.feed(0x20202020, 0x20202020, 0x20202020), 12 * i);
        due.is("22: full", x.feed(0, 0, 0), FULL);
        due.is("22: unchanged", x.count(11), 96);
        due.is("23: above", x.trim(97), BAD);
        due.is("23: below", x.trim(-1), BAD);
        due.is("23: trim", x.trim(85), 85);
        due.is("22: full", x.feed(0, 0, 0), FULL);
        due.is("23: trim", x.trim(84), 84);
        due.is("22: feed", x.feed(0x70617920, 0x6e202020, 0x20202020), 96);
        due.is("24: all 96 bytes", x.text(0, 0), 0);
        due.is("24: used up", x.count(11), 0);
        due.is("23: nothing", x.trim(0), 0);
        due.is("23: nothing", x.trim(1), BAD);
        due.is("22: the highest first", x.feed(0x70617931, 0, 0), 12);
        due.is("22: the highest first", x.text(0, 0), -103);
        due.is("22: highest bits", x.feed(0x706179c0, 0x80000000, 0xffffffff), 12);
        due.is("22: highest bits", x.text(0, 0), -103);
    }

    private static void texts() {
        CutCity x = new CutCity();
        due.is("24: side", Due.law(x, 2, 0, "pay 1"), BAD);
        due.is("24: used up", x.count(11), 0);
        due.is("24: side", Due.law(x, -1, 0, "pay"), BAD);
        due.is("24: day", Due.law(x, 0, -1, "pay 1"), BAD);
        due.is("24: day", Due.law(x, 0, 417, "pay 1"), BAD);
        due.is("24: used up", x.count(11), 0);
        due.is("24: fault", Due.law(x, 0, 0, "pay"), -103);
        due.is("24: used up", x.count(11), 0);
        for (int i = 0; i < 12; i++) due.is("24: text", Due.law(x, i & 1, i == 3 ? 416 : i, "pay n+" + i), i);
        due.is("24: fault ahead of full", Due.law(x, 0, 0, "pay x"), -104);
        due.is("24: bad ahead of fault", Due.law(x, 0, 417, "pay x"), BAD);
        due.is("24: full", Due.law(x, 0, 0, "pay n"), FULL);
        due.is("24: used up", x.count(11), 0);
        due.is("59: texts", x.count(6), 12);
    }

    private static void fault(String word, int place) {
        CutCity x = new CutCity();
        due.is("24: '" + word + "'", Due.law(x, 0, 0, word), place == NONE ? 0 : -100 - place);
    }

    private static void faults() {
        fault("", 0);
        fault("   ", 3);
        fault("1", 0);
        fault(" (", 1);
        fault("cros a", 0);
        fault("crosss a", 0);
        fault("Cross a", 0);
        fault("a", 0);
        fault("hay n", 0);
        fault("pax n", 0);
        fault("halta i", 0);
        fault("pay nz", 4);
        fault("pay za", 4);
        fault("pay n0", 5);
        fault("pay 9n9", 5);
        fault("pay `", 4);
        fault("pay n{", 5);
        fault("pay 1:", 5);
        fault("cross", 5);
        fault("cross ", 6);
        fault("cross1", 5);
        fault("cross 1", NONE);
        fault("cross(1)", NONE);
        fault("cross!a", NONE);
        fault("  cross   a  ", NONE);
        fault("cross cross", 6);
        fault("cross ap", 6);
        fault("cross a p", 8);
        fault("cross a1", 7);
        fault("cross 1a", 7);
        fault("cross 12345", 6);
        fault("cross 0000", NONE);
        fault("cross 00001", 6);
        fault("cross w", 6);
        fault("carry k", 6);
        fault("halt a", 5);
        fault("house n", 6);
        fault("pay d", 4);
        fault("pay n +", 7);
        fault("pay n + ", 8);
        fault("pay +n", 4);
        fault("pay -1", 4);
        fault("pay n--1", 6);
        fault("pay n<1<1", 7);
        fault("pay n<1=1", 7);
        fault("pay n<1+2>3", 9);
        fault("pay 1&n<1<1", 9);
        fault("pay (n<1)<1", NONE);
        fault("pay n<(1<1)", NONE);
        fault("pay n<1&n<1|n<1&n>1", NONE);
        fault("pay n<1&n<1|n<1&n>1>1", 19);
        fault("pay )", 4);
        fault("pay ()", 5);
        fault("pay (n", 6);
        fault("pay (n  ", 8);
        fault("pay (n))", 7);
        fault("pay (n)(n)", 7);
        fault("pay (n)n", 7);
        fault("pay n(n)", 5);
        fault("pay n!n", 5);
        fault("pay !", 5);
        fault("pay !)", 5);
        fault("pay !*n", 5);
        fault("pay n<=1", 6);
        fault("pay n==1", 6);
        fault("pay n\t", 5);
        fault("pay\tn", 3);
        fault("pay n" + (char) 0, 5);
        fault("pay " + (char) 0xfc, 4);
        fault("pay n%2", 5);
        fault("pay n . n", 6);
        fault("pay N", 4);
        for (String word : new String[] {"cross a+p+k+d", "carry w+x+a", "halt i+s+h", "house d+f+p", "pay n"}) fault(word, NONE);
    }

    private static void depths() {
        String open = "((((((((", close = "))))))))";
        fault("pay " + open + "n" + close, NONE);
        fault("pay (" + open + "n)" + close, 12);
        fault("pay " + open + "n" + close + "+" + open + "n" + close, NONE);
        fault("pay " + open + "n)+(n" + close, NONE);
        fault("pay " + open + "n)+((n)" + close, 16);
        fault("pay !!!!!!!!n", NONE);
        fault("pay !!!!!!!!!n", 12);
        fault("pay !!!!!!!!n+!!!!!!!!n", NONE);
        fault("pay !!!!!!!!(!n)", 13);
        fault("pay !!!!!!!(!n+!n)", NONE);
        fault("pay !!!!!!!(!n+!!n)", 16);
        fault("pay !(!(!(!(!(!(!(!(n" + close, NONE);
        fault("pay !(!(!(!(!(!(!(!(!n" + close, 20);
        fault("pay !(!(!(!(!(!(!(!((n)" + close, 20);
        fault("pay !(!n)+!!!!!!!!n", NONE);
        fault("pay !(!n)+!!!!!!!!!n", 18);
    }

    /** What pay is worth for a meter's reading. */
    private static int pay(String word, int n) {
        CutCity x = new CutCity();
        x.meter(0, 0, 1);
        x.put(0, 0, n);
        Due.law(x, 0, 0, "pay " + word);
        return x.coin(0, 0);
    }

    private static void worth(String word, int n, int want) {
        due.is("24: " + word + " for " + n, pay(word, n), want);
    }

    private static void worths() {
        worth("n", -7, -7);
        worth("0", 5, 0);
        worth("9999", 5, 9999);
        worth("0012", 5, 12);
        worth("1+2*3", 0, 7);
        worth("(1+2)*3", 0, 9);
        worth("7-2*3", 0, 1);
        worth("7-6/2+1", 0, 5);
        worth("9-4+1", 0, 6);
        worth("7-2-1", 0, 4);
        worth("7-(2-1)", 0, 6);
        worth("24/4/3", 0, 2);
        worth("24/4*3", 0, 18);
        worth("7/2", 0, 3);
        worth("n/2", -7, -3);
        worth("n/(0-2)", -7, 3);
        worth("n/0", 5, 0);
        worth("0/0", 5, 0);
        worth("n/(0-1)", Integer.MIN_VALUE, Integer.MIN_VALUE);
        worth("n+1", Integer.MAX_VALUE, Integer.MIN_VALUE);
        worth("n-1", Integer.MIN_VALUE, Integer.MAX_VALUE);
        worth("n*n", 65536, 0);
        worth("n*2", Integer.MAX_VALUE, -2);
        worth("n<5", 4, 1);
        worth("n<5", 5, 0);
        worth("n=5", 5, 1);
        worth("n=5", 6, 0);
        worth("n>5", 6, 1);
        worth("n>5", 5, 0);
        worth("n<1", Integer.MIN_VALUE, 1);
        worth("n-1<n", Integer.MIN_VALUE, 0);
        worth("1+n<3*2", 5, 0);
        worth("1+n<3*2", 4, 1);
        worth("!n", 0, 1);
        worth("!n", 9, 0);
        worth("!!n", 9, 1);
        worth("!n+1", 0, 2);
        worth("!n*5", 0, 5);
        worth("!(n+1)", -1, 1);
        worth("n&2", 4, 1);
        worth("n&2", 0, 0);
        worth("2&n", 0, 0);
        worth("n|0", 4, 1);
        worth("n|0", 0, 0);
        worth("0|n", -4, 1);
        worth("1|0&0", 0, 1);
        worth("(1|0)&0", 0, 0);
        worth("0&0|1", 0, 1);
        worth("n<2|n>4&n<6", 5, 1);
        worth("n<2|n>4&n<6", 1, 1);
        worth("n<2|n>4&n<6", 6, 0);
        worth("5&3=3", 0, 1);
        worth("(5&3)=3", 0, 0);
        worth("(5&3)+(0|7)+(2<3)", 0, 3);
        worth(" ( n ) * ( 2 ) ", 21, 42);
        worth("1+(2*(3+(4*(5+n))))", 1, 55);
    }

    private static void ofTexts() {
        CutCity x = new CutCity();
        x.run(50);
        due.is("25: text", Due.law(x, 1, 416, "house d+12*!(f|p)-d"), 0);
        due.is("25: key", x.of(0, 0), 3);
        due.is("25: side", x.of(0, 1), 1);
        due.is("25: day", x.of(0, 2), 416);
        due.is("25: struck", x.of(0, 3), NONE);
        due.is("25: parts", x.of(0, 4), 5);
        String[] words = {"cross", "carry", "halt", "house", "pay"};
        for (int i = 0; i < 5; i++) due.is("25: key", x.of(Due.law(x, 0, 0, words[i] + " 1"), 0), i);
        due.is("25: what", x.of(0, 5), BAD);
        due.is("25: what", x.of(0, -1), BAD);
        due.is("25: text", x.of(6, 0), BAD);
        due.is("25: text", x.of(-1, 0), BAD);
        due.is("26: strike", x.strike(0), 1);
        due.is("26: from the next day on", x.of(0, 3), 3);
        due.is("26: again", x.strike(0), NO);
        due.is("26: text", x.strike(6), BAD);
        due.is("26: text", x.strike(-1), BAD);
    }

    private static void counting() {
        CutCity x = new CutCity();
        due.is("27: none", x.counts(0, 0), NONE);
        Due.law(x, 0, 1, "cross 1");
        Due.law(x, 0, 2, "cross 1");
        Due.law(x, 0, 1, "cross 1");
        Due.law(x, 0, 0, "carry 1");
        due.is("27: not in force", x.counts(0, 0), NONE);
        due.is("27: another key", x.counts(0, 1), 3);
        due.is("27: another side", x.counts(1, 1), NONE);
        x.run(23);
        due.is("27: day 0", x.counts(0, 0), NONE);
        x.run(1);
        due.is("27: the greatest number of one day", x.counts(0, 0), 2);
        x.run(24);
        due.is("27: the latest day", x.counts(0, 0), 1);
        x.strike(1);
        due.is("27: struck tomorrow", x.counts(0, 0), 1);
        x.run(24);
        due.is("27: struck", x.counts(0, 0), 2);
        x.strike(2);
        x.strike(0);
        x.run(23);
        due.is("27: still", x.counts(0, 0), 2);
        x.run(1);
        due.is("27: all struck", x.counts(0, 0), NONE);
        due.is("27: side", x.counts(2, 0), BAD);
        due.is("27: side", x.counts(-1, 0), BAD);
        due.is("27: key", x.counts(0, 5), BAD);
        due.is("27: key", x.counts(0, -1), BAD);
    }

    private static void mays() {
        CutCity x = new CutCity();
        x.cell(0);
        x.cell(1);
        x.person(0, 41, 2);
        x.person(1, 20, 1);
        x.tie(5, 0, 1, 4);
        int pass = x.pass(0, 1, 1, 5005);
        due.is("28: no text", x.may(pass, 0), 0);
        Due.law(x, 0, 0, "cross a=41&p=2&k=4&d=0");
        due.is("28: names", x.may(pass, 0), 1);
        due.is("28: no text of 1", x.may(pass, 1), 0);
        Due.law(x, 1, 0, "cross d-1");
        due.is("28: below 0 is not 0", x.may(pass, 1), 1);
        x.run(24);
        due.is("28: the day", x.may(pass, 0), 0);
        due.is("28: the day", x.may(pass, 1), 0);
        for (int i = 1; i < 7; i++) x.run(24);
        due.is("28: the day's rest by 7", x.may(pass, 0), 1);
        x.take(pass);
        due.is("28: whatever its state and days", x.may(pass, 0), 1);
        int other = x.pass(0, 1, 1, 7007);
        int parcel = x.parcel(other, 12, 7);
        due.is("28: no text of carry", x.may(other, 0), 0);
        due.is("28: another pass has no parcel", x.may(pass, 0), 1);
        Due.law(x, 0, 0, "carry w=12&x=7&a=41");
        due.is("28: carry", x.may(other, 0), 1);
        x.parcel(other, 12, 7);
        due.is("28: two of them", x.may(other, 0), 1);
        x.parcel(other, 12, 6);
        due.is("28: one is not let", x.may(other, 0), 0);
        due.is("28: side", x.may(pass, 2), BAD);
        due.is("28: side", x.may(pass, -1), BAD);
        due.is("28: a parcel", x.may(parcel, 0), BAD);
        due.is("28: kin", x.may(0, 0), BAD);
        due.is("28: none", x.may(-1, 0), BAD);
        due.is("28: none", x.may(40, 0), BAD);
    }

    private static void unlikes() {
        CutCity x = new CutCity();
        int all = Due.law(x, 0, 0, "cross 1");
        int none = Due.law(x, 1, 9, "cross 0");
        int corner = Due.law(x, 0, 0, "cross a=99&p=3&k=9");
        int adults = Due.law(x, 0, 0, "cross a>17");
        int papers = Due.law(x, 0, 0, "cross 0-p");
        int kin = Due.law(x, 0, 0, "cross k");
        int sunday = Due.law(x, 0, 0, "cross d=0");
        int carry = Due.law(x, 0, 0, "carry 1");
        unlike(x, all, all, 0, NONE);
        unlike(x, all, none, 4000, 0);
        unlike(x, none, all, 4000, 0);
        unlike(x, corner, none, 1, 9939);
        unlike(x, corner, all, 3999, 0);
        unlike(x, adults, none, 82 * 40, 1800);
        unlike(x, adults, all, 18 * 40, 0);
        unlike(x, papers, none, 3000, 10);
        unlike(x, kin, none, 3600, 1);
        unlike(x, kin, all, 400, 0);
        unlike(x, papers, kin, 100 * (3 + 9), 1);
        unlike(x, adults, papers, 40 * 18 * 3 / 4 + 82 * 10, 10);
        unlike(x, sunday, all, 0, NONE);
        x.strike(all);
        x.run(25);
        unlike(x, sunday, all, 4000, 0);
        for (int i = 0; i < 6; i++) x.run(24);
        unlike(x, sunday, all, 0, NONE);
        x.run(24);
        unlike(x, all, sunday, 4000, 0);
        unlike(x, none, adults, 82 * 40, 1800);
        unlike(x, none, papers, 3000, 10);
        unlike(x, none, kin, 3600, 1);
        due.is("29: key", x.unlike(all, carry, 0), KIND);
        due.is("29: key", x.unlike(carry, all, 1), KIND);
        due.is("29: what", x.unlike(all, carry, 2), BAD);
        due.is("29: what", x.unlike(all, all, -1), BAD);
        due.is("29: text", x.unlike(all, 8, 0), BAD);
        due.is("29: text", x.unlike(-1, carry, 0), BAD);
    }

    private static void unlike(CutCity x, int one, int other, int many, int least) {
        due.is("29: how many " + one + " " + other, x.unlike(one, other, 0), many);
        due.is("29: the least " + one + " " + other, x.unlike(one, other, 1), least);
    }

    private static void visits() {
        CutCity x = new CutCity();
        for (int i = 0; i < 2; i++) x.cell(i);
        for (int i = 0; i < 5; i++) x.person(i & 1, 10 * i, i & 3);
        due.is("30: no texts", x.visits(0), 0);
        Due.law(x, 0, 0, "cross 1");
        due.is("30: one text", x.visits(0), 0);
        int younger = Due.law(x, 1, 1, "cross a<35");
        due.is("31: not in force", x.changed(younger), 3 * 2 + 2 * 3 - 2);
        due.is("30: not in force", x.visits(0), 0);
        x.run(24);
        due.is("30: from 0", x.visits(0), 4);
        due.is("30: from 1", x.visits(1), 6);
        due.is("31: it counts", x.changed(younger), 0);
        int kin = Due.law(x, 0, 9, "cross k=3");
        due.is("31: fewer", x.changed(kin), -10);
        x.tie(5, 0, 3, 3);
        due.is("31: fewer", x.changed(kin), -8);
        x.tie(5, 1, 4, 3);
        due.is("31: fewer", x.changed(kin), -7);
        x.die(3);
        due.is("30: without the dead", x.visits(0), 2);
        due.is("30: without the dead", x.visits(1), 3);
        int free = Due.law(x, 1, 9, "cross 1");
        due.is("31: more", x.changed(free), 1);
        x.strike(younger);
        due.is("31: a text that is struck", x.changed(younger), 0);
        x.run(24);
        due.is("31: a text that is struck", x.changed(younger), 5);
        int weekly = Due.law(x, 1, 2, "cross d=1");
        due.is("30: day 2", x.visits(0) + x.visits(1), 0);
        for (int i = 0; i < 6; i++) x.run(24);
        due.is("30: day 8", x.visits(0), 3);
        due.is("31: day 8", x.changed(weekly), 0);
        due.is("30: side", x.visits(2), BAD);
        due.is("30: side", x.visits(-1), BAD);
        int carry = Due.law(x, 1, 9, "carry 1");
        due.is("31: key", x.changed(carry), KIND);
        due.is("31: text", x.changed(6), BAD);
        due.is("31: text", x.changed(-1), BAD);
    }

    private static void houses() {
        CutCity x = new CutCity();
        due.is("32: no text", x.house(0, 9, 9, 9), 0);
        due.is("32: no text", x.house(1, 90, 90, 90), 1);
        Due.law(x, 0, 0, "house d");
        Due.law(x, 1, 0, "house f*3+p");
        due.is("32: doors", x.house(0, 10, 9, 9), 0);
        due.is("32: doors", x.house(0, 1, 90, 90), 1);
        due.is("32: as many", x.house(0, 55, 9, 9), 0);
        due.is("32: floors", x.house(1, 0, 10, 3), 1);
        due.is("32: floors", x.house(1, 0, 10, 2), 0);
        due.is("32: floors", x.house(1, 0, 10, 4), 1);
        due.is("32: as 1", x.house(1, 90, 0, 0), 1);
        due.is("32: pipes", x.house(1, 9, 99, 98), 0);
        due.is("32: most", x.house(1, 99, 99, 99), 1);
        for (String name : new String[] {"d", "f", "p"}) {
            CutCity y = new CutCity();
            for (int side = 0; side < 2; side++) Due.law(y, side, 0, "house " + name);
            for (int v = 0; v < 100; v++) {
                int doors = name.equals("d") ? v : 77, floors = name.equals("f") ? v : 66, pipes = name.equals("p") ? v : 55;
                for (int side = 0; side < 2; side++) {
                    int want = v / 10 > v % 10 ? 0 : v / 10 < v % 10 ? 1 : side;
                    due.is("32: " + name + " " + v, y.house(side, doors, floors, pipes), want);
                }
            }
        }
        due.is("32: side", x.house(2, 0, 0, 0), BAD);
        due.is("32: side", x.house(-1, 0, 0, 0), BAD);
        for (int v : new int[] {-1, 100}) {
            due.is("32: doors", x.house(0, v, 0, 0), BAD);
            due.is("32: floors", x.house(0, 0, v, 0), BAD);
            due.is("32: pipes", x.house(0, 0, 0, v), BAD);
        }
    }
}
