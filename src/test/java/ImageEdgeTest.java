/** The edges of promises 55 to 59, each on both sides: rows, images, counts. */
public final class ImageEdgeTest {
    private static final int BAD = CutCity.BAD, NO = CutCity.NO, FULL = CutCity.FULL, NONE = CutCity.NONE;
    private static final int MIN = Integer.MIN_VALUE, MAX = Integer.MAX_VALUE;
    private static final Due due = new Due("ImageEdgeTest");
    /** Numbers 0, 4, 1 wait in it: the order to 13 is 0, 4, 1, 13. */
    private static final Edges town = new Edges(due, Town::lay);
    private static final Edges unkept = new Edges(due, Town::layUnkept);
    /** Without an image, and without clauses. */
    private static final Edges bare = new Edges(due, x -> {
        x.cell(0);
        x.person(0, 1, 1);
        x.tell(5);
    });

    public static void main(String[] args) {
        tell();
        checkBad();
        checkNo();
        orders();
        days();
        sixty();
        ghosts();
        backFromAll();
        backAgain();
        callsOfTwo();
        notKept();
        keepAndBack();
        count();
        due.end();
    }

    private static Edges with(Edges.Scene more) {
        return new Edges(due, x -> {
            Town.lay(x);
            more.lay(x);
        });
    }

    private static void told(CutCity x, int upTo) {
        for (int i = x.count(10); i < upTo; i++) x.tell(i);
    }

    private static void tell() {
        for (int v : new int[] {0, MIN, MAX, NONE, BAD}) town.taken("55: any number", 4, x -> x.tell(v));
        with(x -> told(x, 59)).taken("55: the 60th", 60, x -> x.tell(7));
        Edges full = with(x -> told(x, 60));
        for (int v : new int[] {0, 60, MIN, MAX}) full.refused("55: the 61st", FULL, x -> x.tell(v));
        full.then("55: none wait then", 1, x -> x.check(0, 13), x -> x.tell(7));
    }

    /** A check that is refused uses the numbers up all the same. */
    private static void gone(CutCity x) {
        x.check(0, 13);
    }

    private static void checkBad() {
        for (int what : new int[] {-1, 2, MIN, MAX}) {
            town.refused("56: what " + what, BAD, x -> x.check(what, 1), ImageEdgeTest::gone);
            town.then("56: none wait then", 0, x -> x.check(what, 1), x -> x.count(10));
        }
        for (int n : new int[] {0, -1, 1000, 1001, MIN, MAX}) {
            town.refused("56: THE ORDER to " + n, BAD, x -> x.check(0, n), ImageEdgeTest::gone);
            town.then("56: none wait then", 0, x -> x.check(0, n), x -> x.count(10));
        }
        for (int n : new int[] {0, -1, 25, 26, 999, MIN, MAX}) {
            town.refused("56: HOURS " + n, BAD, x -> x.check(1, n), ImageEdgeTest::gone);
            town.then("56: none wait then", 0, x -> x.check(1, n), x -> x.count(10));
            bare.then("56: none wait then", 0, x -> x.check(1, n), x -> x.count(10));
        }
        for (int n : new int[] {0, 1000}) bare.taken("56: BAD ahead of NO", BAD, x -> x.check(0, n));
        for (int n : new int[] {0, 25}) bare.taken("56: BAD ahead of NO", BAD, x -> x.check(1, n));
        town.taken("56: THE ORDER to 1", 3, x -> x.check(0, 1));
        town.taken("56: HOURS 1", 2, x -> x.check(1, 1));
        town.taken("56: HOURS 24", 2, x -> x.check(1, 24));
    }

    private static void checkNo() {
        town.refused("56: no ORDER to 15", NO, x -> x.check(0, 15), ImageEdgeTest::gone);
        town.refused("56: no ORDER to 999", NO, x -> x.check(0, 999), ImageEdgeTest::gone);
        town.then("56: none wait then", 0, x -> x.check(0, 15), x -> x.count(10));
        bare.taken("56: no CLAUSES", NO, x -> x.check(0, 1));
        bare.taken("56: no IMAGE", NO, x -> x.check(1, 1));
        bare.taken("56: no IMAGE", NO, x -> x.check(1, 24));
        bare.then("56: none wait then", 0, x -> x.check(0, 1), x -> x.count(10));
        bare.then("56: none wait then", 0, x -> x.check(1, 1), x -> x.count(10));
        bare.then("56: an IMAGE", 1, x -> x.keep(), x -> x.check(1, 1));
    }

    private static int checked(int what, int n, int... numbers) {
        CutCity x = new CutCity();
        Town.lay(x);
        x.check(0, 13);
        for (int v : numbers) x.tell(v);
        int answer = x.check(what, n);
        due.is("56: none wait then", x.count(10), 0);
        return answer;
    }

    private static void orders() {
        due.is("56: as they are", checked(0, 13, 0, 4, 1, 13), 0);
        due.is("56: none", checked(0, 13), 1);
        due.is("56: one", checked(0, 13, 0), 2);
        due.is("56: two", checked(0, 13, 0, 4), 3);
        due.is("56: three", checked(0, 13, 0, 4, 1), 4);
        due.is("56: the first is another", checked(0, 13, 1, 4, 1, 13), 1);
        due.is("56: the second is another", checked(0, 13, 0, 5, 1, 13), 2);
        due.is("56: the third is another", checked(0, 13, 0, 4, 2, 13), 3);
        due.is("56: the fourth is another", checked(0, 13, 0, 4, 1, 9), 4);
        due.is("56: one too many", checked(0, 13, 0, 4, 1, 13, 2), 5);
        due.is("56: two too many", checked(0, 13, 0, 4, 1, 13, 2, 14), 5);
        due.is("56: two are not", checked(0, 13, 0, 3, 1, 12), 2);
        due.is("56: one is not, and one too many", checked(0, 13, 0, 4, 1, 12, 0), 4);
        due.is("56: one is not, and one is missing", checked(0, 13, 0, 5, 1), 2);
        due.is("56: all three", checked(0, 14, 0, 4, 1, 13, 2, 14), 0);
        due.is("56: to 4", checked(0, 4, 0, 4), 0);
        due.is("56: to 5", checked(0, 5, 1, 9), 0);
        due.is("56: to 1", checked(0, 1, 0, 4), 0);
        CutCity x = new CutCity();
        for (int i = 0; i < 7; i++) x.clause(0, 0, 99);
        for (int years = 1; years < 8; years++) {
            for (int i = 0; i < years; i++) {
                x.tell(i);
                x.tell(99 * (i + 1));
            }
            due.is("56: " + years + " YEARS", x.check(0, 99 * years), 0);
        }
    }

    /** In the town who waits at the street is let by at 5, behind six hours from hour 1 on, and comes home two later. */
    private static int[] rows(int hours) {
        int[] rows = new int[2 * hours];
        for (int i = 0; i < hours; i++) {
            int hour = i + 1;
            rows[2 * i] = hour < 5 ? 1 : 0;
            rows[2 * i + 1] = (hour < 9 ? 1 : 0) + (hour >= 5 && hour < 7 ? 1 : 0);
        }
        return rows;
    }

    /** A town of which an image is kept last, with so many of these numbers. */
    private static Edges late(int[] numbers, int many) {
        return with(x -> {
            x.check(0, 13);
            x.keep();
            for (int i = 0; i < many; i++) x.tell(numbers[i]);
        });
    }

    private static void days() {
        for (int hours : new int[] {1, 2, 4, 5, 6, 7, 8, 9, 10, 23, 24}) {
            int[] rows = rows(hours);
            late(rows, rows.length).taken("56: " + hours + " HOURS", 0, x -> x.check(1, hours));
            for (int n : new int[] {0, 1, rows.length - 1}) {
                late(rows, n).taken("56: " + hours + " HOURS, " + n + " told", 1 + n, x -> x.check(1, hours));
            }
            late(rows, rows.length).then("56: " + hours + " HOURS, one too many", 1 + rows.length, x -> x.tell(0), x -> x.check(1, hours));
            for (int off : new int[] {0, 1, rows.length - 1}) {
                int[] other = rows.clone();
                other[off]++;
                late(other, other.length).taken("56: " + hours + " HOURS, not " + off, 1 + off, x -> x.check(1, hours));
            }
        }
    }

    /** Sixty numbers wait: all that may, more than rows ever have. */
    private static void sixty() {
        CutCity x = new CutCity();
        x.keep();
        for (int i = 0; i < 60; i++) x.tell(0);
        due.is("56: twelve too many", x.check(1, 24), 49);
        due.is("56: none wait then", x.count(10), 0);
        for (int i = 0; i < 48; i++) x.tell(0);
        due.is("56: as many as there are", x.check(1, 24), 0);
        for (int i = 0; i < 47; i++) x.tell(0);
        due.is("56: one is missing", x.check(1, 24), 48);
        for (int i = 0; i < 49; i++) x.tell(0);
        due.is("56: one too many", x.check(1, 24), 49);
        x.clause(0, 0, 9);
        for (int i = 0; i < 60; i++) x.tell(i * 9);
        due.is("56: most too many", x.check(0, 9), 3);
    }

    /** The days that are told go by for nobody: all is as it was, and the image, too. */
    private static void ghosts() {
        for (int hours : new int[] {1, 24}) {
            Edges.same(due, "56: nothing has gone by", behind(x -> x.check(0, 13)), behind(x -> x.check(1, hours)));
        }
        Edges.Scene kept = x -> {
            x.check(0, 13);
            x.keep();
        };
        Edges.same(due, "56: nothing has gone by", behind(kept), behind(x -> {
            kept.lay(x);
            x.check(1, 24);
            x.check(1, 3);
        }));
    }

    private static Edges.Scene behind(Edges.Scene more) {
        return x -> {
            Town.lay(x);
            more.lay(x);
        };
    }

    /** All that can be changed, but meters, numbers and the tape. */
    private static void change(CutCity x) {
        x.cell(1);
        x.water(0, 0, 1);
        x.water(0, 1, 1);
        x.person(0, 9, 3);
        x.be(0, 1, 99);
        x.be(2, 2, 3);
        x.take(Town.ASKED);
        x.die(Town.ABROAD);
        x.tie(5, 0, 2, 1);
        x.pass(0, 1, 1, 1);
        x.parcel(Town.PASS, 1, 1);
        for (int tie : new int[] {Town.STREET, Town.PIPE, Town.WIRE, Town.KIN}) x.change(tie, 9);
        x.gate(Town.STREET, 1, 1);
        x.gate(Town.CUT, 1, 1);
        x.ask(Town.PASS, Town.CUT);
        x.letter(1, 1);
        x.call(Town.WIRE, 9, 9);
        x.stop(Town.LINE, 1, 1);
        x.strike(Town.CROSS);
        x.strike(Town.PAY);
        x.file(0, 1243, 31);
        x.file(1, 2000, 40);
        for (int side = 0; side < 2; side++) x.wrong(side, 1);
        for (int what = 0; what < 2; what++) x.rule(what, 77);
        for (int gate = 0; gate < 8; gate += 3) {
            x.feast(gate, 0, 50 + gate);
            x.feast(gate, 12, 3 + gate);
        }
        x.clause(9, 9, 99);
        x.run(30);
    }

    private static void backFromAll() {
        Edges.same(due, "58: all is as THE IMAGE", behind(x -> x.keep()), behind(x -> {
            x.keep();
            change(x);
            x.back();
        }));
    }

    private static void backAgain() {
        Edges.same(due, "58: again and again", behind(x -> x.keep()), behind(x -> {
            x.keep();
            for (int round = 0; round < 2; round++) {
                change(x);
                due.is("58: again", x.back(), 1);
            }
        }));
        CutCity z = new CutCity();
        z.keep();
        for (int i = 0; i < 16; i++) z.cell(i & 1);
        for (int i = 0; i < 20; i++) z.person(i & 15, 1, 1);
        for (int i = 0; i < 40; i++) z.tie(0, 0, 1, 0);
        for (int i = 0; i < 12; i++) Town.law(z, i & 1, i, "pay n");
        for (int i = 0; i < 20; i++) z.letter(i & 1, 99);
        for (int i = 0; i < 7; i++) z.clause(1, 1, 1);
        for (int i = 0; i < 20; i++) z.file(i & 1, i, i);
        int[] full = {16, 20, 0, 0, 40, 0, 12, 20, 0, 7, 0, 0, 0, 10, 10};
        for (int what = 0; what < 15; what++) due.is("59: full, " + what, z.count(what), full[what]);
        due.is("58: to nobody", z.back(), 0);
        for (int what = 0; what < 15; what++) due.is("58: to nobody, " + what, z.count(what), 0);
    }

    /** Calls of two wires in turns: those of the first are over behind an hour, and wait again as the image does. */
    private static void callsOfTwo() {
        CutCity x = new CutCity();
        for (int i = 0; i < 2; i++) x.cell(i);
        for (int i = 0; i < 2; i++) x.tie(4, 0, 1, 60 * i);
        for (int i = 0; i < 6; i++) x.call(1 - i % 2, 9 - i, 10 + i);
        x.keep();
        for (int round = 0; round < 2; round++) {
            due.is("20: three of one", x.told(0, 9), 3);
            due.is("20: three of the other", x.told(1, 9), 3);
            x.run(1);
            due.is("20: three of one wait still", x.told(0, 9), 3);
            due.is("20: none of the other", x.told(1, 9), 0);
            x.back();
        }
        x.change(0, 13);
        x.run(1);
        due.is("20: of 11, 13, 15 the one of the higher RANK is over", x.told(0, 9), 2);
        x.run(1);
        due.is("20: two are, by 2 and 11", x.told(0, 9), 1);
        x.run(1);
        due.is("20: 2 are left of 15", x.told(0, 9), 0);
    }

    private static void notKept() {
        CutCity x = new CutCity();
        Town.lay(x);
        x.keep();
        x.meter(0, 1, 3);
        x.put(0, 1, 8);
        x.put(1, 4, NONE);
        x.check(0, 13);
        x.tell(0);
        x.trim(7);
        x.wrong(0, 2);
        x.back();
        due.is("57: numbers stay", x.count(10), 1);
        due.is("57: THE TAPE stays", x.count(11), 7);
        int[] changed = {0, 8, 0, CutCity.INDEX};
        for (int day = 0; day < 4; day++) due.is("57: METERS stay", x.read(0, day), changed[day]);
        int[] floats = {CutCity.KIND, 110, 110, 0, 0, CutCity.INDEX};
        for (int day = 0; day < 6; day++) due.is("57: METERS stay", x.read(1, day), floats[day]);
        due.is("57: from which DAY on they are false is kept", x.wrong(0, 9), 3);
        due.is("57: THE TAPE stays", x.text(0, 0), 8);
        due.is("57: THE TAPE stays", x.of(8, 4), 2);
        due.is("57: numbers stay", x.check(0, 13), 2);
    }

    private static void keepAndBack() {
        bare.refused("58: no IMAGE", NO, CutCity::back);
        unkept.refused("58: no IMAGE", NO, CutCity::back);
        unkept.refused("56: no IMAGE", NO, x -> x.check(1, 1), ImageEdgeTest::gone);
        unkept.refused("56: HOURS, without an IMAGE", BAD, x -> x.check(1, 25), ImageEdgeTest::gone);
        unkept.then("58: then there is one", 1, CutCity::keep, CutCity::back);
        town.taken("57: keep", 1, CutCity::keep);
        town.taken("58: back", 1, CutCity::back);
        town.then("57: the HOUR", 8, x -> x.run(7), CutCity::keep);
        town.then("58: the HOUR of THE IMAGE", 1, x -> x.run(7), CutCity::back);
        town.then("57: back to it", 1, CutCity::back, CutCity::back);
        with(CutCity::keep).then("58: the later one", 1, x -> x.run(7), CutCity::back);
        CutCity x = new CutCity();
        for (int i = 0; i < 99; i++) x.run(100);
        x.run(99);
        due.is("57: the last HOUR", x.keep(), 9999);
        due.is("58: the last HOUR", x.back(), 9999);
        for (int i = 0; i < 48; i++) x.tell(0);
        due.is("56: nobody waits behind it", x.check(1, 24), 0);
        due.is("56: it is as it was", x.count(12), 9999);
    }

    private static void count() {
        town.range("59: what", 0, 4, 14, 2, BAD, (x, v) -> x.count(v));
        int[] want = {4, 5, 1, 1, 12, 2, 8, 2, 2, 3, 3, 12, 1, 2, 2};
        for (int i = 0; i < 15; i++) {
            int what = i;
            town.taken("59: " + i, want[i], x -> x.count(what));
        }
        mostOfAll();
    }

    /** All that is counted, as full as it may be; then all are dead. */
    private static void mostOfAll() {
        CutCity x = new CutCity();
        for (int i = 0; i < 16; i++) x.cell(i & 1);
        for (int i = 0; i < 20; i++) x.person(i & 15, 1, 1);
        for (int side = 0; side < 2; side++) Town.law(x, side, 0, "cross 1");
        x.tie(4, 0, 1, 0);
        x.tie(1, 0, 1, 0);
        for (int i = 0; i < 38; i++) due.is("59: OPEN", x.count(5), x.pass(i % 20, 1 - i % 2, 1, i) - 2);
        due.is("59: OPEN", x.count(5), 38);
        for (int i = 0; i < 20; i++) {
            x.call(0, 1, 1);
            x.letter(0, 1 + i);
            x.ask(2 + i, 1);
        }
        for (int i = 0; i < 60; i++) x.tell(i);
        for (int i = 0; i < 8; i++) x.feed(i, i, i);
        int[] most = {16, 20, 0, 20, 40, 38, 2, 20, 20, 0, 60, 96};
        for (int what = 0; what < most.length; what++) due.is("59: the most " + what, x.count(what), most[what]);
        for (int i = 0; i < 20; i++) {
            due.is("59: WAIT", x.count(3), 20 - i);
            due.is("59: DEAD", x.count(2), i);
            x.die(i);
        }
        due.is("59: all are DEAD", x.count(2), 20);
        due.is("59: nobody WAITS", x.count(3), 0);
        due.is("59: PASSES of the DEAD are OPEN", x.count(5), 38);
        x.run(100);
        due.is("59: till their DAYS are over", x.count(5), 34);
        due.is("59: all LETTERS have come", x.count(7), 0);
    }
}
