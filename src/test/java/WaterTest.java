import java.util.Random;

/** Promises 33 to 37: water and trains. */
public final class WaterTest {
    private static final int BAD = CutCity.BAD, FULL = CutCity.FULL, NONE = CutCity.NONE, KIND = CutCity.KIND;
    private static final Due due = new Due("WaterTest");

    public static void main(String[] args) {
        flows();
        bothWays();
        turnedBack();
        fullCities();
        narrowPipes();
        needs();
        stops();
        trains();
        clocks();
        due.end();
    }

    private static void flows() {
        CutCity x = new CutCity();
        for (int i = 0; i < 4; i++) x.cell(i & 1);
        due.is("33: nothing", x.flow(3), 0);
        x.water(0, 1, 100);
        x.water(0, 0, 30);
        due.is("33: its own", x.flow(1), 30);
        due.is("33: others use none", x.flow(2), 0);
        x.water(1, 0, 50);
        due.is("33: no pipe", x.flow(3), 30);
        due.is("34: lack", x.lack(1), 50);
        int wire = x.tie(4, 0, 1, 60);
        int street = x.tie(1, 0, 1, 9);
        due.is("33: wires carry none", x.flow(3), 30);
        int pipe = x.tie(3, 1, 0, 20);
        due.is("33: by a pipe", x.flow(2), 20);
        due.is("33: both", x.flow(3), 50);
        int other = x.tie(3, 0, 1, 9999);
        due.is("33: by two pipes", x.flow(2), 50);
        due.is("33: both", x.flow(3), 80);
        x.water(3, 0, 999);
        x.tie(3, 1, 3, 9999);
        due.is("33: the source is the least", x.flow(3), 100);
        due.is("34: lack", x.lack(0), 0);
        due.is("34: lack", x.lack(1), 949);
        x.change(other, 0);
        due.is("33: through others", x.flow(2), 20);
        due.is("35: need", x.need(pipe, 1), 20);
        due.is("35: need", x.need(pipe, 0), 0);
        due.is("35: need", x.need(other, 1), 0);
        due.is("35: a wire", x.need(wire, 1), KIND);
        due.is("35: a street", x.need(street, 1), KIND);
        due.is("35: side", x.need(wire, 2), BAD);
        due.is("35: side", x.need(pipe, -1), BAD);
        due.is("35: none", x.need(5, 0), BAD);
        due.is("35: none", x.need(-1, 0), BAD);
        due.is("33: sides", x.flow(0), BAD);
        due.is("33: sides", x.flow(4), BAD);
        due.is("33: sides", x.flow(-1), BAD);
        due.is("34: side", x.lack(2), BAD);
        due.is("34: side", x.lack(-1), BAD);
    }

    private static void bothWays() {
        CutCity x = new CutCity();
        for (int i = 0; i < 3; i++) x.cell(0);
        x.water(2, 1, 9);
        x.water(0, 0, 9);
        x.tie(3, 0, 1, 7);
        x.tie(3, 1, 2, 8);
        due.is("33: against the pipes' order", x.flow(1), 7);
        x.water(0, 1, 5);
        x.water(2, 0, 30);
        due.is("33: all that is given", x.flow(1), 14);
    }

    /** A way that was taken first has to be given up in part. */
    private static void turnedBack() {
        CutCity x = new CutCity();
        for (int i = 0; i < 6; i++) x.cell(0);
        x.water(0, 1, 20);
        x.water(5, 0, 20);
        int[][] ends = {{0, 1}, {0, 2}, {1, 4}, {1, 3}, {2, 4}, {3, 5}, {4, 5}};
        for (int[] e : ends) x.tie(3, e[0], e[1], 10);
        due.is("33: all", x.flow(1), 20);
        CutCity y = new CutCity();
        for (int i = 0; i < 6; i++) y.cell(0);
        y.tie(3, 0, 1, 1);
        int[][] ways = {{2, 3}, {3, 1}, {0, 4}, {4, 5}};
        for (int[] e : ways) y.tie(3, e[0], e[1], 2);
        y.water(0, 1, 1);
        y.water(2, 1, 2);
        y.water(1, 0, 1);
        y.water(5, 0, 2);
        due.is("33: all, with the first pipe the other way round", y.flow(1), 3);
    }

    /** The least cut tells the greatest flow; here all cuts are gone through. */
    private static void fullCities() {
        Random r = new Random(7);
        for (int run = 0; run < 12; run++) {
            CutCity x = new CutCity();
            Model m = new Model();
            for (int i = 0; i < 16; i++) {
                int side = r.nextInt(2);
                x.cell(side);
                m.cell(side);
                int v = r.nextInt(1000);
                x.water(i, 0, v);
                m.water(i, 0, v);
                v = r.nextInt(3) == 0 ? r.nextInt(10000) : 0;
                x.water(i, 1, v);
                m.water(i, 1, v);
            }
            for (int i = 0; i < 40; i++) {
                int one = r.nextInt(16), other = r.nextInt(16), c = r.nextInt(r.nextBoolean() ? 100 : 1500);
                x.tie(3, one, other, c);
                m.tie(3, one, other, c);
            }
            for (int sides = 1; sides < 4; sides++) due.is("33: run " + run, x.flow(sides), m.flow(sides));
            for (int side = 0; side < 2; side++) due.is("34: run " + run, x.lack(side), m.lack(side));
            for (int i = 0; i < 3; i++) due.is("35: run " + run, x.need(i, i & 1), m.need(i, i & 1));
        }
    }

    /** Few cells with many narrow pipes, in which ways often have to be turned round. */
    private static void narrowPipes() {
        Random r = new Random(8);
        for (int run = 0; run < 1000; run++) {
            CutCity x = new CutCity();
            Model m = new Model();
            int cells = 5 + r.nextInt(4);
            for (int i = 0; i < cells; i++) {
                x.cell(i & 1);
                m.cell(i & 1);
                int use = r.nextInt(3) == 0 ? r.nextInt(9) : 0, source = r.nextInt(3) == 0 ? r.nextInt(9) : 0;
                x.water(i, 0, use);
                m.water(i, 0, use);
                x.water(i, 1, source);
                m.water(i, 1, source);
            }
            for (int i = 0; i < 8 + r.nextInt(7); i++) {
                int one = r.nextInt(cells), other = r.nextInt(cells), c = r.nextInt(4);
                x.tie(3, one, other, c);
                m.tie(3, one, other, c);
            }
            for (int sides = 1; sides < 4; sides++) due.is("33: narrow run " + run, x.flow(sides), m.flow(sides));
        }
    }

    private static void needs() {
        CutCity x = new CutCity();
        x.cell(0);
        x.cell(1);
        x.water(0, 1, 100);
        x.water(1, 0, 100);
        int first = x.tie(3, 0, 1, 60);
        int second = x.tie(3, 0, 1, 70);
        due.is("35: first", x.need(first, 1), 30);
        due.is("35: second", x.need(second, 1), 40);
        due.is("35: unchanged", x.lack(1), 0);
        due.is("35: unchanged", x.told(second, 3), 70);
    }

    private static void stops() {
        CutCity x = new CutCity();
        x.cell(0);
        x.cell(1);
        int line = x.tie(2, 0, 1, 0);
        int street = x.tie(1, 0, 1, 0);
        due.is("36: cell", x.stop(line, 2, 0), BAD);
        due.is("36: cell", x.stop(line, -1, 0), BAD);
        due.is("36: minutes", x.stop(line, 0, 60), BAD);
        due.is("36: minutes", x.stop(line, 0, -1), BAD);
        due.is("36: tie", x.stop(2, 0, 0), BAD);
        due.is("36: tie", x.stop(-1, 0, 0), BAD);
        due.is("36: kind", x.stop(street, 0, 0), KIND);
        due.is("36: bad ahead of kind", x.stop(street, 0, 60), BAD);
        for (int i = 1; i <= 8; i++) due.is("36: stop", x.stop(line, i & 1, 59), i);
        due.is("36: full", x.stop(line, 0, 0), FULL);
        due.is("36: bad ahead of full", x.stop(line, 0, 60), BAD);
        int other = x.tie(2, 1, 0, 0);
        due.is("36: another line", x.stop(other, 0, 0), 1);
        due.is("37: the last stop", x.train(line, 59, 7, 0), 7 * 59 + 6 * 2);
    }

    private static void trains() {
        CutCity x = new CutCity();
        x.cell(0);
        x.cell(1);
        int line = x.tie(2, 0, 1, 0);
        int street = x.tie(1, 0, 1, 0);
        due.is("37: no stop", x.train(line, 0, 0, 0), NONE);
        x.stop(line, 0, 40);
        x.stop(line, 1, 10);
        x.stop(line, 0, 20);
        x.stop(line, 1, 0);
        due.is("37: the first", x.train(line, 0, 0, 0), 0);
        due.is("37: halts", x.train(line, 0, 0, 1), 1);
        due.is("37: second", x.train(line, 0, 1, 0), 10);
        due.is("37: third", x.train(line, 0, 2, 0), 32);
        due.is("37: fourth", x.train(line, 0, 3, 0), 34);
        due.is("37: halts", x.train(line, 0, 3, 1), 1);
        Due.law(x, 1, 0, "halt 0");
        due.is("37: halts not", x.train(line, 0, 1, 1), 0);
        due.is("37: by its own side's law", x.train(line, 0, 2, 1), 1);
        due.is("37: third", x.train(line, 0, 2, 0), 30);
        due.is("37: fourth", x.train(line, 0, 3, 0), 32);
        Due.law(x, 0, 0, "halt i=0");
        due.is("37: the first halts", x.train(line, 0, 0, 1), 1);
        due.is("37: third halts not", x.train(line, 0, 2, 1), 0);
        due.is("37: fourth", x.train(line, 0, 3, 0), 30);
        Due.law(x, 1, 0, "halt s");
        due.is("37: side", x.train(line, 0, 1, 1), 1);
        Due.law(x, 0, 1, "halt !s");
        due.is("37: not in force", x.train(line, 0, 2, 1), 0);
        x.run(24);
        due.is("37: in force", x.train(line, 0, 2, 1), 1);
        due.is("37: no such stop", x.train(line, 0, 4, 0), NONE);
        due.is("37: no such stop", x.train(line, 0, -1, 0), NONE);
        due.is("37: minute", x.train(line, 60, 0, 0), BAD);
        due.is("37: minute", x.train(line, -1, 9, 0), BAD);
        due.is("37: what", x.train(line, 0, 0, 2), BAD);
        due.is("37: what", x.train(line, 0, 0, -1), BAD);
        due.is("37: tie", x.train(2, 0, 0, 0), BAD);
        due.is("37: tie", x.train(-1, 0, 0, 0), BAD);
        due.is("37: kind", x.train(street, 0, 9, 0), KIND);
        due.is("37: bad ahead of kind", x.train(street, 60, 0, 0), BAD);
    }

    private static void clocks() {
        CutCity x = new CutCity();
        x.cell(0);
        int other = x.cell(0);
        int line = x.tie(2, 0, other, 0);
        x.stop(line, 0, 0);
        x.stop(line, other, 29);
        x.stop(line, 0, 28);
        Due.law(x, 0, 0, "halt h=0");
        x.run(23);
        due.is("37: at 23.30", x.train(line, 30, 1, 1), 0);
        due.is("37: at 0.00", x.train(line, 31, 1, 1), 1);
        due.is("37: at 23.58", x.train(line, 1, 2, 1), 0);
        due.is("37: at 0.00 behind 23.32", x.train(line, 3, 2, 1), 1);
        due.is("37: a halt at 0.00", x.train(line, 31, 2, 0), 59);
        due.is("37: none at 23.59", x.train(line, 30, 2, 0), 57);
        due.is("37: the first at 23", x.train(line, 59, 0, 1), 0);
        x.run(1);
        due.is("37: the first at 0", x.train(line, 59, 0, 1), 1);
        due.is("37: the first one's halt takes nothing", x.train(line, 0, 1, 0), 29);
    }
}
