/** Promises 1 to 21: the city, and how its hours go by. */
public final class CityTest {
    private static final int BAD = CutCity.BAD, NO = CutCity.NO, FULL = CutCity.FULL, NONE = CutCity.NONE, KIND = CutCity.KIND;
    private static final int MIN = Integer.MIN_VALUE, MAX = Integer.MAX_VALUE;
    private static final Due due = new Due("CityTest");

    public static void main(String[] args) {
        anew();
        cells();
        waters();
        persons();
        dying();
        ties();
        passes();
        parcels();
        telling();
        kinds();
        changing();
        gates();
        kinships();
        taking();
        whys();
        asking();
        lettersGo();
        callsGo();
        hoursGo();
        streetsLetBy();
        insideOneSide();
        staysEnd();
        passesLapse();
        passesOfOthers();
        slotsAnew();
        newsInOrder();
        kinOfMany();
        due.end();
    }

    /** Cells 0, 2 of side 0 and 1, 3 of side 1; persons 0, 2 at home in 0 and 1, 3 in 1; all may cross. */
    private static CutCity city() {
        CutCity x = new CutCity();
        for (int i = 0; i < 4; i++) x.cell(i & 1);
        for (int i = 0; i < 4; i++) x.person(i & 1, 30 + i, i);
        Due.law(x, 0, 0, "cross 1");
        Due.law(x, 1, 0, "cross 1");
        return x;
    }

    private static void anew() {
        CutCity x = new CutCity();
        for (int i = 0; i <= 14; i++) due.is("1: count(" + i + ")", x.count(i), 0);
        due.is("1: person", x.person(0, 1, 1), BAD);
        due.is("1: is", x.is(0, 0), BAD);
        due.is("1: told", x.told(0, 0), BAD);
        due.is("1: of", x.of(0, 0), BAD);
        due.is("1: counts", x.counts(0, 0), NONE);
        due.is("1: flow", x.flow(3), 0);
        due.is("1: lack", x.lack(1), 0);
        due.is("1: visits", x.visits(0), 0);
        due.is("1: pairing", x.pairing(0), 0);
        due.is("1: pairing", x.pairing(2), BAD);
        due.is("1: back", x.back(), NO);
        due.is("1: run", x.run(1), 1);
    }

    private static void cells() {
        CutCity x = new CutCity();
        for (int side : new int[] {-1, 2, MIN, MAX}) due.is("2: cell", x.cell(side), BAD);
        for (int i = 0; i < 16; i++) due.is("2: cell", x.cell(i & 1), i);
        due.is("2: cell", x.cell(0), FULL);
        due.is("2: cell", x.cell(2), BAD);
        due.is("2: count", x.count(0), 16);
    }

    private static void waters() {
        CutCity x = city();
        due.is("3: use", x.water(1, 0, 999), 0);
        due.is("3: use", x.water(1, 0, 0), 999);
        due.is("3: source", x.water(1, 1, 9999), 0);
        due.is("3: source", x.water(1, 1, 5), 9999);
        due.is("3: use is another", x.water(1, 0, 7), 0);
        due.is("3: cell", x.water(4, 0, 1), BAD);
        due.is("3: cell", x.water(-1, 0, 1), BAD);
        due.is("3: what", x.water(0, 2, 1), BAD);
        due.is("3: what", x.water(0, -1, 1), BAD);
        due.is("3: use", x.water(0, 0, 1000), BAD);
        due.is("3: use", x.water(0, 0, -1), BAD);
        due.is("3: source", x.water(0, 1, 10000), BAD);
        due.is("3: source", x.water(0, 1, -1), BAD);
        due.is("3: unchanged", x.water(1, 1, 5), 5);
    }

    private static void persons() {
        CutCity x = city();
        due.is("4: home", x.person(4, 1, 1), BAD);
        due.is("4: home", x.person(-1, 1, 1), BAD);
        due.is("4: age", x.person(0, 100, 1), BAD);
        due.is("4: age", x.person(0, -1, 1), BAD);
        due.is("4: papers", x.person(0, 1, 4), BAD);
        due.is("4: papers", x.person(0, 1, -1), BAD);
        due.is("4: person", x.person(3, 99, 3), 4);
        due.is("5: home", x.is(4, 0), 3);
        due.is("5: age", x.is(4, 1), 99);
        due.is("5: papers", x.is(4, 2), 3);
        due.is("5: cell", x.is(4, 3), 3);
        due.is("5: street", x.is(4, 4), NONE);
        for (int i = 5; i < 8; i++) due.is("5: dead", x.is(4, i), 0);
        due.is("5: what", x.is(4, 8), BAD);
        due.is("5: what", x.is(4, -1), BAD);
        due.is("5: person", x.is(5, 0), BAD);
        due.is("5: person", x.is(-1, 0), BAD);
        due.is("6: age", x.be(4, 1, 0), 99);
        due.is("6: papers", x.be(4, 2, 0), 3);
        due.is("6: age", x.is(4, 1), 0);
        due.is("6: papers", x.is(4, 2), 0);
        due.is("6: age", x.be(4, 1, 100), BAD);
        due.is("6: papers", x.be(4, 2, 4), BAD);
        due.is("6: below", x.be(4, 2, -1), BAD);
        due.is("6: what", x.be(4, 0, 1), BAD);
        due.is("6: what", x.be(4, 3, 1), BAD);
        due.is("6: person", x.be(5, 1, 1), BAD);
        due.is("6: of the dead, too", x.die(4), 1);
        due.is("6: of the dead, too", x.be(4, 1, 12), 0);
        for (int i = 5; i < 20; i++) due.is("4: person", x.person(0, 0, 0), i);
        due.is("4: person", x.person(0, 0, 0), FULL);
        due.is("4: person", x.person(0, 0, 9), BAD);
    }

    private static void dying() {
        CutCity x = city();
        int street = x.tie(1, 0, 1, 9);
        int pass = x.pass(0, 1, 5, 0);
        int other = x.pass(2, 1, 5, 0);
        x.ask(pass, street);
        x.run(1);
        x.ask(other, street);
        due.is("7: person", x.die(4), BAD);
        due.is("7: person", x.die(-1), BAD);
        due.is("7: in a cell of the other side", x.die(0), 1);
        due.is("7: dead", x.is(0, 5), 1);
        due.is("7: cell", x.is(0, 3), NONE);
        due.is("7: known on 0", x.is(0, 6), 0);
        due.is("7: known on 1", x.is(0, 7), 1);
        due.is("7: again", x.die(0), NO);
        due.is("7: who waits", x.die(2), 1);
        due.is("7: waits no more", x.is(2, 4), NONE);
        due.is("7: waits no more", x.told(street, 9), 0);
        due.is("7: count", x.count(3), 0);
        due.is("7: known at home", x.is(2, 6), 1);
        due.is("7: known there", x.is(2, 7), 0);
        due.is("7: its pass is open", x.told(other, 6), 0);
        due.is("7: home stays told", x.is(2, 0), 0);
        due.is("59: dead", x.count(2), 2);
    }

    private static void ties() {
        CutCity x = city();
        int[] least = {0, 0, 0, 0, 0, 1};
        int[] most = {0, 9, 0, 9999, 60, 9};
        for (int kind = 0; kind < 6; kind++) {
            due.is("8: c", x.tie(kind, 0, 1, least[kind] - 1), BAD);
            due.is("8: c", x.tie(kind, 0, 1, most[kind] + 1), BAD);
            due.is("8: least", x.tie(kind, 0, 1, least[kind]), 2 * kind);
            due.is("8: most", x.tie(kind, 2, 3, most[kind]), 2 * kind + 1);
            due.is("8: one", x.tie(kind, 1, 1, least[kind]), BAD);
            due.is("8: end", x.tie(kind, 4, 1, least[kind]), BAD);
            due.is("8: end", x.tie(kind, 1, 4, least[kind]), BAD);
            due.is("8: end", x.tie(kind, -1, 0, least[kind]), BAD);
        }
        due.is("8: kind", x.tie(6, 0, 1, 1), BAD);
        due.is("8: kind", x.tie(7, 0, 1, 1), BAD);
        due.is("8: kind", x.tie(-1, 0, 1, 0), BAD);
        x.cell(0);
        due.is("8: cells are ends of lines", x.tie(2, 0, 4, 0), 12);
        due.is("8: of kin they are none", x.tie(5, 0, 4, 1), BAD);
        due.is("8: twice", x.tie(1, 0, 1, 1), 13);
        for (int i = 14; i < 40; i++) due.is("8: tie", x.tie(0, 0, 2, 0), i);
        due.is("8: full", x.tie(0, 0, 2, 0), FULL);
        due.is("8: bad ahead of full", x.tie(0, 0, 2, 1), BAD);
        due.is("9: full", x.pass(0, 1, 1, 0), FULL);
        due.is("9: bad ahead of full", x.pass(0, 2, 1, 0), BAD);
    }

    private static void passes() {
        CutCity x = city();
        due.is("9: pass", x.pass(0, 1, 1, 416416), 0);
        due.is("9: pass", x.pass(1, 0, 99, 416), 1);
        due.is("9: pass", x.pass(3, 2, 99, 7007), 2);
        due.is("9: stay", x.pass(0, 1, 0, 1), BAD);
        due.is("9: stay", x.pass(0, 1, 100, 1), BAD);
        due.is("9: one side", x.pass(0, 2, 1, 1), BAD);
        due.is("9: oneself", x.pass(0, 0, 1, 1), BAD);
        due.is("9: person", x.pass(4, 0, 1, 1), BAD);
        due.is("9: person", x.pass(0, -1, 1, 1), BAD);
        due.is("9: last", x.pass(0, 1, 1, 417), BAD);
        due.is("9: first", x.pass(0, 1, 1, 417417), BAD);
        due.is("9: last ahead of first", x.pass(0, 1, 1, 7006), BAD);
        due.is("9: below 0", x.pass(0, 1, 1, -1), BAD);
        due.is("9: days", x.pass(0, 1, 1, MAX), BAD);
        due.is("9: days", x.pass(0, 1, 1, MIN), BAD);
        due.is("11: first", x.told(0, 4), 416);
        due.is("11: last", x.told(0, 5), 416);
        due.is("11: first", x.told(1, 4), 0);
        due.is("11: last", x.told(1, 5), 416);
        x.die(1);
        due.is("9: to the dead", x.pass(0, 1, 1, 1), 3);
        due.is("59: open", x.count(5), 4);
    }

    private static void parcels() {
        CutCity x = city();
        x.tie(5, 0, 1, 1);
        int pass = x.pass(0, 1, 1, 0);
        due.is("10: parcel", x.parcel(pass, 1, 0), 2);
        due.is("10: parcel", x.parcel(pass, 99, 7), 3);
        due.is("10: ends", x.told(3, 1), 0);
        due.is("10: ends", x.told(3, 2), 1);
        due.is("10: of a parcel", x.parcel(2, 1, 0), BAD);
        due.is("10: of kin", x.parcel(0, 1, 0), BAD);
        due.is("10: none", x.parcel(9, 1, 0), BAD);
        due.is("10: none", x.parcel(-1, 1, 0), BAD);
        due.is("10: weight", x.parcel(pass, 0, 0), BAD);
        due.is("10: weight", x.parcel(pass, 100, 0), BAD);
        due.is("10: stuff", x.parcel(pass, 1, 8), BAD);
        due.is("10: stuff", x.parcel(pass, 1, -1), BAD);
        int taken = x.pass(0, 1, 1, 0);
        x.take(taken);
        due.is("10: not open", x.parcel(taken, 1, 0), NO);
        due.is("10: bad ahead of no", x.parcel(taken, 1, 9), BAD);
        for (int i = 5; i < 40; i++) x.parcel(pass, 1, 0);
        due.is("10: full", x.parcel(pass, 1, 0), FULL);
        due.is("10: no ahead of full", x.parcel(taken, 1, 0), NO);
        due.is("59: parcels are no passes", x.count(5), 1);
    }

    private static void telling() {
        CutCity x = city();
        int street = x.tie(1, 2, 1, 3);
        int wire = x.tie(4, 0, 3, 60);
        int line = x.tie(2, 0, 3, 0);
        int pass = x.pass(3, 0, 9, 2003);
        int parcel = x.parcel(pass, 8, 7);
        int kin = x.tie(5, 2, 0, 4);
        int[][] want = {
            {1, 2, 1, 3, 0, 23, 0, 0, NONE, 0},
            {4, 0, 3, 60, 0, 0, 0, 0, NONE, 0},
            {2, 0, 3, 0, 0, 0, 0, 0, NONE, 0},
            {6, 3, 0, 9, 2, 3, 0, 0, NONE, 0},
            {7, 3, 0, 8, 0, 0, 0, 7, pass, 0},
            {5, 2, 0, 4, 0, 0, 0, 0, NONE, 0}};
        int[] all = {street, wire, line, pass, parcel, kin};
        for (int i = 0; i < all.length; i++) {
            for (int what = 0; what < 10; what++) due.is("11: told " + i + " " + what, x.told(all[i], what), want[i][what]);
        }
        x.call(wire, 1, 99);
        x.call(wire, 1, 99);
        due.is("11: calls", x.told(wire, 9), 2);
        due.is("11: what", x.told(0, 10), BAD);
        due.is("11: what", x.told(0, -1), BAD);
        due.is("11: tie", x.told(6, 0), BAD);
        due.is("11: tie", x.told(-1, 0), BAD);
    }

    private static void kinds() {
        CutCity x = city();
        for (int kind = 0; kind < 6; kind++) x.tie(kind, 0, 1, kind == 5 ? 7 : 0);
        x.change(1, 4);
        x.change(3, 30);
        x.change(4, 40);
        x.parcel(x.pass(0, 1, 6, 0), 70, 0);
        int[] c = {0, 4, 0, 30, 40, 7, 6, 70};
        String[] under = {"0", "01", "02", "03", "034", "05", "056", "0567"};
        for (int tie = 0; tie < 8; tie++) {
            for (int kind = 0; kind < 8; kind++) {
                boolean is = under[tie].indexOf('0' + kind) >= 0;
                due.is("12: " + tie + " as " + kind, x.as(tie, kind), is ? c[tie] : KIND);
            }
        }
        due.is("12: tie", x.as(8, 0), BAD);
        due.is("12: tie", x.as(-1, 0), BAD);
        due.is("12: kind", x.as(0, 8), BAD);
        due.is("12: kind", x.as(0, -1), BAD);
    }

    private static void changing() {
        CutCity x = city();
        for (int kind = 0; kind < 6; kind++) x.tie(kind, 0, 1, kind == 5 ? 1 : 0);
        x.parcel(x.pass(0, 1, 1, 0), 1, 1);
        int[] most = {0, 9, 0, 9999, 60, 9};
        for (int kind : new int[] {1, 3, 4, 5}) {
            int first = kind == 5 ? 1 : 0;
            due.is("13: most", x.change(kind, most[kind]), first);
            due.is("13: above", x.change(kind, most[kind] + 1), BAD);
            due.is("13: below", x.change(kind, first - 1), BAD);
            due.is("13: c", x.told(kind, 3), most[kind]);
            due.is("13: least", x.change(kind, first), most[kind]);
        }
        for (int tie : new int[] {0, 2, 6, 7}) due.is("13: kind", x.change(tie, 1), KIND);
        for (int tie : new int[] {0, 2, 6, 7}) due.is("13: kind ahead of v", x.change(tie, -1), KIND);
        due.is("13: tie", x.change(8, 1), BAD);
        due.is("13: tie", x.change(-1, 1), BAD);
    }

    private static void gates() {
        CutCity x = city();
        int street = x.tie(1, 0, 1, 1);
        int wire = x.tie(4, 0, 1, 1);
        due.is("14: gate", x.gate(street, 23, 0), 1);
        due.is("14: from", x.told(street, 4), 23);
        due.is("14: to", x.told(street, 5), 0);
        due.is("14: from", x.gate(street, 24, 0), BAD);
        due.is("14: from", x.gate(street, -1, 0), BAD);
        due.is("14: to", x.gate(street, 0, 24), BAD);
        due.is("14: to", x.gate(street, 0, -1), BAD);
        due.is("14: tie", x.gate(2, 0, 1), BAD);
        due.is("14: kind", x.gate(wire, 0, 1), KIND);
        due.is("14: bad ahead of kind", x.gate(wire, 0, 24), BAD);
        opens(0, 23, "111111111111111111111111");
        opens(5, 5, "000001000000000000000000");
        opens(22, 1, "110000000000000000000011");
        opens(1, 0, "111111111111111111111111");
        opens(3, 7, "000111110000000000000000");
    }

    /** Who asks in each hour has crossed behind it, if the gate is open at its clock. */
    private static void opens(int from, int to, String clocks) {
        for (int hour = 0; hour < 24; hour++) {
            CutCity x = city();
            int street = x.tie(1, 0, 1, 1);
            x.gate(street, from, to);
            if (hour > 0) x.run(hour);
            x.ask(x.pass(0, 1, 9, 0), street);
            x.run(1);
            due.is("14: gate " + from + " " + to + " at " + hour, x.is(0, 3) == 1 ? 1 : 0, clocks.charAt(hour) - '0');
        }
    }

    private static void kinships() {
        CutCity x = city();
        for (int i = 4; i < 20; i++) x.person(i & 1, 1, 1);
        for (int i = 0; i < 12; i++) x.tie(5, i + 1, i, 1);
        due.is("15: next", x.kinship(0, 1), 1);
        due.is("15: back", x.kinship(1, 0), 1);
        due.is("15: nine", x.kinship(0, 9), 9);
        due.is("15: ten", x.kinship(0, 10), 0);
        due.is("15: ten", x.kinship(10, 0), 0);
        due.is("15: none", x.kinship(0, 13), 0);
        x.tie(5, 0, 8, 3);
        due.is("15: a shorter way", x.kinship(0, 10), 5);
        due.is("15: a shorter way back", x.kinship(5, 0), 5);
        due.is("15: a shorter way back", x.kinship(6, 0), 5);
        x.tie(5, 0, 1, 9);
        due.is("15: the least of two", x.kinship(0, 1), 1);
        x.pass(14, 15, 1, 0);
        due.is("15: a pass is none", x.kinship(14, 15), 0);
        x.die(1);
        due.is("15: over the dead", x.kinship(0, 2), 2);
        due.is("15: one", x.kinship(3, 3), BAD);
        due.is("15: person", x.kinship(20, 3), BAD);
        due.is("15: person", x.kinship(3, -1), BAD);
        x.change(0, 9);
        due.is("15: as it is now", x.kinship(0, 1), 9);
    }

    private static void taking() {
        CutCity x = city();
        int street = x.tie(1, 0, 1, 1);
        int pass = x.pass(0, 1, 2, 0);
        int other = x.pass(0, 3, 2, 0);
        int parcel = x.parcel(pass, 1, 1);
        due.is("16: a street", x.take(street), BAD);
        due.is("16: a parcel", x.take(parcel), BAD);
        due.is("16: none", x.take(9), BAD);
        due.is("16: none", x.take(-1), BAD);
        due.is("16: another pass", x.ask(other, street), 1);
        due.is("16: take", x.take(other), 1);
        due.is("16: at home", x.is(0, 3), 0);
        due.is("16: waits no more", x.is(0, 4), NONE);
        due.is("16: nobody waits", x.told(street, 9), 0);
        due.is("16: state", x.told(other, 6), 3);
        due.is("16: again", x.take(other), NO);
        due.is("59: open", x.count(5), 1);
        int third = x.pass(0, 3, 2, 0);
        x.ask(third, street);
        Due.law(x, 0, 0, "carry 1");
        Due.law(x, 1, 0, "carry 1");
        due.is("16: of one who waits with another", x.take(pass), 1);
        due.is("16: who waits still", x.is(0, 4), street);
        x.run(1);
        due.is("16: used", x.take(third), NO);
        x.run(2);
        due.is("16: over", x.take(third), NO);
    }

    private static void whys() {
        CutCity x = new CutCity();
        for (int i = 0; i < 4; i++) x.cell(i & 1);
        for (int i = 0; i < 4; i++) x.person(i & 1, 30 + i, i);
        int pass = x.pass(0, 1, 2, 1001);
        int street = x.tie(1, 0, 1, 9);
        due.is("17: the day", x.why(pass), 3);
        x.run(24);
        due.is("17: side 0", x.why(pass), 4);
        Due.law(x, 0, 1, "cross a=30");
        due.is("17: side 1", x.why(pass), 5);
        Due.law(x, 1, 1, "cross p");
        due.is("17: side 1", x.why(pass), 5);
        x.be(0, 2, 1);
        due.is("17: it can", x.why(pass), 0);
        int parcel = x.parcel(pass, 50, 3);
        due.is("17: without a law of carry", x.why(pass), 4);
        Due.law(x, 0, 0, "carry w=50&x=3&a=30");
        due.is("17: without a law of carry", x.why(pass), 5);
        Due.law(x, 1, 0, "carry w<50");
        due.is("17: too heavy", x.why(pass), 5);
        Due.law(x, 1, 0, "carry w");
        due.is("17: it can", x.why(pass), 0);
        due.is("17: a parcel is none", x.why(parcel), BAD);
        due.is("17: a street", x.why(street), BAD);
        due.is("17: none", x.why(-1), BAD);
        due.is("17: none", x.why(3), BAD);
        due.is("18: ask", x.ask(pass, street), 1);
        due.is("17: waits", x.why(pass), 1);
        x.run(1);
        due.is("17: abroad", x.why(pass), 1);
        x.run(2);
        due.is("17: over", x.why(pass), 2);
        x.die(0);
        due.is("17: dead", x.why(pass), 1);
        int taken = x.pass(2, 1, 1, 0);
        x.take(taken);
        due.is("17: taken", x.why(taken), 2);
        int old = x.pass(2, 1, 1, 0);
        due.is("17: its days are over", x.why(old), 3);
    }

    private static void asking() {
        CutCity x = city();
        int first = x.tie(1, 0, 1, 0);
        int second = x.tie(1, 1, 0, 0);
        int wire = x.tie(4, 0, 1, 1);
        int[] pass = {x.pass(0, 1, 1, 0), x.pass(1, 0, 1, 0), x.pass(2, 3, 1, 0), x.pass(3, 2, 1, 0)};
        int parcel = x.parcel(pass[3], 1, 1);
        due.is("18: no street", x.ask(pass[0], wire), BAD);
        due.is("18: no street", x.ask(pass[0], pass[1]), BAD);
        due.is("18: no street", x.ask(pass[0], -1), BAD);
        due.is("18: no street", x.ask(pass[0], 40), BAD);
        due.is("18: no pass", x.ask(first, first), BAD);
        due.is("18: no pass", x.ask(parcel, first), BAD);
        due.is("18: ask", x.ask(pass[0], first), 1);
        due.is("18: of the other side", x.ask(pass[1], first), 2);
        due.is("18: at another street", x.ask(pass[2], second), 1);
        due.is("18: not let", x.ask(pass[3], first), NO);
        due.is("18: waits", x.ask(pass[2], first), NO);
        due.is("18: bad ahead of no", x.ask(pass[2], wire), BAD);
        due.is("18: cell", x.is(2, 3), NONE);
        due.is("18: street", x.is(2, 4), second);
        due.is("59: who wait", x.count(3), 3);
        x.run(1);
        due.is("18: a street that is cut", x.told(first, 9), 2);
    }

    private static void lettersGo() {
        CutCity x = city();
        due.is("19: side", x.letter(-1, 1), BAD);
        due.is("19: side", x.letter(2, 1), BAD);
        due.is("19: n", x.letter(0, 0), BAD);
        due.is("19: n", x.letter(0, 100), BAD);
        x.die(0);
        due.is("19: letter", x.letter(0, 2), 1);
        due.is("19: letter", x.letter(1, 1), 2);
        x.die(2);
        due.is("19: letter", x.letter(0, 99), 3);
        x.run(2);
        due.is("19: on their way", x.count(7), 2);
        due.is("19: not yet", x.is(0, 7), 0);
        x.run(1);
        due.is("19: come", x.is(0, 7), 1);
        due.is("19: died later", x.is(2, 7), 0);
        due.is("19: on their way", x.count(7), 1);
        x.run(96);
        due.is("19: not yet", x.is(2, 7), 0);
        x.run(1);
        due.is("19: come", x.is(2, 7), 1);
        for (int i = 1; i <= 20; i++) due.is("19: letter", x.letter(0, i), i);
        due.is("19: full", x.letter(0, 1), FULL);
        due.is("19: bad ahead of full", x.letter(0, 0), BAD);
        x.die(1);
        due.is("19: known", x.is(1, 7), 1);
        x.run(21);
        due.is("19: letters go one way", x.is(1, 6), 0);
    }

    private static void callsGo() {
        CutCity x = city();
        int wire = x.tie(4, 0, 1, 10);
        int other = x.tie(4, 0, 2, 1);
        int pipe = x.tie(3, 0, 1, 10);
        due.is("20: a pipe", x.call(pipe, 0, 1), BAD);
        due.is("20: none", x.call(3, 0, 1), BAD);
        due.is("20: rank", x.call(wire, 10, 1), BAD);
        due.is("20: rank", x.call(wire, -1, 1), BAD);
        due.is("20: minutes", x.call(wire, 0, 0), BAD);
        due.is("20: minutes", x.call(wire, 0, 100), BAD);
        due.is("20: call", x.call(wire, 0, 3), 1);
        due.is("20: call", x.call(wire, 5, 15), 2);
        due.is("20: call", x.call(wire, 5, 4), 3);
        due.is("20: another", x.call(other, 9, 1), 1);
        due.is("59: calls", x.count(8), 4);
        x.change(other, 0);
        x.die(0);
        x.run(1);
        due.is("20: the one of 15 told first has 10", x.told(wire, 9), 3);
        due.is("20: no news", x.is(0, 7), 0);
        x.run(1);
        due.is("20: 5, 4, and 1 of 3", x.told(wire, 9), 1);
        due.is("20: news", x.is(0, 7), 1);
        due.is("20: a higher one", x.call(wire, 9, 9), 2);
        x.run(1);
        due.is("20: 9 and 1 of 2", x.told(wire, 9), 1);
        x.die(1);
        due.is("20: not yet", x.is(1, 6), 0);
        x.run(1);
        due.is("20: over", x.told(wire, 9), 0);
        due.is("20: both sides learn", x.is(1, 6), 1);
        due.is("20: without minutes", x.told(other, 9), 1);
        x.die(2);
        x.change(other, 1);
        x.run(1);
        due.is("20: a wire on one side", x.is(2, 7), 1);
        for (int i = 1; i <= 20; i++) due.is("20: call", x.call(i % 2 == 0 ? wire : other, 1, 99), (i + 1) / 2);
        due.is("20: full", x.call(wire, 1, 99), FULL);
        due.is("20: bad ahead of full", x.call(wire, 1, 0), BAD);
    }

    private static void hoursGo() {
        CutCity x = city();
        due.is("21: n", x.run(0), BAD);
        due.is("21: n", x.run(101), BAD);
        due.is("21: n", x.run(-1), BAD);
        for (int i = 1; i < 100; i++) due.is("21: run", x.run(100), 100 * i);
        due.is("21: full", x.run(100), FULL);
        due.is("21: bad ahead of full", x.run(101), BAD);
        due.is("21: run", x.run(98), 9998);
        due.is("21: full", x.run(2), FULL);
        due.is("21: run", x.run(1), 9999);
        due.is("21: full", x.run(1), FULL);
        due.is("59: hour", x.count(12), 9999);
        int pass = x.pass(0, 1, 1, 416416);
        due.is("17: the last day", x.why(pass), 0);
    }

    private static void streetsLetBy() {
        CutCity x = city();
        x.person(0, 1, 1);
        int late = x.tie(1, 0, 1, 2);
        int[] pass = {x.pass(0, 1, 9, 0), x.pass(1, 0, 9, 0), x.pass(2, 1, 9, 0), x.pass(3, 0, 9, 0), x.pass(4, 1, 9, 0)};
        for (int i : new int[] {4, 3, 0}) x.ask(pass[i], late);
        x.die(2);
        x.run(1);
        due.is("21b: first", x.is(4, 3), 1);
        due.is("21b: second", x.is(3, 3), 0);
        due.is("21b: third waits", x.is(0, 4), late);
        due.is("21b: used", x.told(pass[4], 6), 1);
        due.is("21b: open", x.told(pass[0], 6), 0);
        due.is("21b: who comes from 0 tells 1", x.is(2, 7), 1);
        x.die(1);
        x.run(1);
        due.is("21b: then", x.is(0, 3), 1);
        due.is("21b: who goes to 1 has not come home", x.is(1, 6), 0);
        CutCity y = city();
        int turned = y.tie(1, 1, 0, 1);
        y.ask(y.pass(0, 1, 9, 0), turned);
        y.run(1);
        due.is("21b: the first end is the other side's", y.is(0, 3), 1);
        int both = y.tie(1, 1, 3, 1);
        y.ask(y.pass(2, 1, 9, 0), both);
        y.run(1);
        due.is("21b: of several the second", y.is(2, 3), 3);
    }

    /** Who is let by a street of one's own side is not abroad, and may ask with another pass. */
    private static void insideOneSide() {
        CutCity x = city();
        int street = x.tie(1, 0, 2, 1);
        int cut = x.tie(1, 0, 1, 0);
        int first = x.pass(0, 1, 2, 0);
        int second = x.pass(0, 3, 2, 0);
        x.ask(first, street);
        x.die(2);
        x.run(1);
        due.is("21b: of none the second", x.is(0, 3), 2);
        due.is("21b: news", x.is(2, 7), 1);
        due.is("17: in a cell of its side", x.why(second), 0);
        due.is("18: ask", x.ask(second, cut), 1);
        x.run(1);
        due.is("21c: waits", x.is(0, 4), cut);
        x.run(1);
        due.is("21c: at home", x.is(0, 3), 0);
        due.is("21c: waits no more", x.is(0, 4), NONE);
        due.is("21c: over", x.told(first, 6), 2);
        due.is("21c: the other is open", x.told(second, 6), 0);
        due.is("21c: nobody waits", x.told(cut, 9), 0);
    }

    private static void staysEnd() {
        CutCity x = city();
        int street = x.tie(1, 0, 1, 9);
        int pass = x.pass(0, 1, 2, 0);
        int dead = x.pass(2, 1, 2, 0);
        x.ask(pass, street);
        x.ask(dead, street);
        x.run(1);
        x.die(3);
        x.die(2);
        x.run(1);
        due.is("21c: stays", x.is(0, 3), 1);
        due.is("21c: used", x.told(pass, 6), 1);
        x.run(1);
        due.is("21c: home", x.is(0, 3), 0);
        due.is("21c: over", x.told(pass, 6), 2);
        due.is("21c: over, too", x.told(dead, 6), 2);
        due.is("21c: the dead stay", x.is(2, 3), NONE);
        due.is("21c: news come home", x.is(3, 6), 1);
        due.is("21c: news come home", x.is(2, 6), 1);
        CutCity y = city();
        street = y.tie(1, 0, 1, 9);
        y.ask(y.pass(0, 1, 1, 0), street);
        y.run(1);
        y.die(0);
        y.run(1);
        due.is("21c: the dead tell nothing", y.is(0, 6), 0);
    }

    private static void passesLapse() {
        CutCity x = city();
        int street = x.tie(1, 0, 1, 1);
        x.gate(street, 5, 5);
        x.run(6);
        int pass = x.pass(0, 1, 2, 0);
        int longer = x.pass(2, 1, 2, 1);
        x.ask(pass, street);
        x.ask(longer, street);
        x.run(18);
        due.is("21d: day 0", x.told(pass, 6), 0);
        due.is("21d: waits", x.is(0, 4), street);
        x.run(1);
        due.is("21d: over", x.told(pass, 6), 2);
        due.is("21d: home", x.is(0, 3), 0);
        due.is("21d: waits no more", x.is(0, 4), NONE);
        due.is("21d: its last day is 1", x.told(longer, 6), 0);
        due.is("21d: one waits", x.told(street, 9), 1);
        x.run(5);
        due.is("21b: at 5", x.is(2, 3), 1);
        CutCity y = city();
        street = y.tie(1, 0, 1, 1);
        y.gate(street, 0, 0);
        y.run(6);
        pass = y.pass(0, 1, 2, 0);
        y.ask(pass, street);
        y.run(19);
        due.is("21: streets come ahead of passes that lapse", y.told(pass, 6), 1);
    }

    /** A pass with which one waited once does nothing to one who waits with it no more. */
    private static void passesOfOthers() {
        CutCity x = city();
        int inside = x.tie(1, 0, 2, 1);
        int cut = x.tie(1, 0, 1, 0);
        int over = x.tie(1, 0, 1, 1);
        int first = x.pass(0, 1, 2, 0);
        int second = x.pass(0, 1, 9, 0);
        int third = x.pass(0, 3, 9, 0);
        x.ask(first, inside);
        x.run(1);
        x.ask(second, cut);
        x.run(2);
        due.is("21c: at home", x.is(0, 3), 0);
        x.ask(third, over);
        x.run(1);
        due.is("16: abroad", x.is(0, 3), 1);
        due.is("16: take", x.take(second), 1);
        due.is("16: abroad still", x.is(0, 3), 1);
        int last = x.pass(2, 1, 9, 0);
        x.ask(last, cut);
        x.die(2);
        due.is("16: of the dead", x.take(last), 1);
        due.is("16: who stay dead", x.is(2, 3), NONE);
        CutCity y = city();
        int lapsing = y.tie(1, 0, 1, 0);
        int pass = y.pass(0, 1, 9, 0);
        y.ask(pass, lapsing);
        y.die(0);
        y.run(25);
        due.is("21d: of the dead", y.told(pass, 6), 2);
        due.is("21d: who stay dead", y.is(0, 3), NONE);
        CutCity z = city();
        due.is("21d: the first tie", z.pass(0, 1, 9, 0), 0);
        z.run(25);
        due.is("21d: the first tie", z.told(0, 6), 2);
    }

    /** What comes behind an image that was gone back to has nothing of what stood in its place. */
    private static void slotsAnew() {
        CutCity x = city();
        x.keep();
        int street = x.tie(1, 0, 1, 3);
        x.gate(street, 5, 6);
        int pass = x.pass(0, 1, 1, 3004);
        int parcel = x.parcel(pass, 7, 7);
        x.take(pass);
        int line = x.tie(2, 0, 1, 0);
        x.stop(line, 0, 9);
        x.cell(1);
        x.water(4, 0, 9);
        x.water(4, 1, 9);
        int person = x.person(1, 9, 3);
        x.die(person);
        x.back();
        int[] kinds = {0, 1, 3, 2};
        for (int i = 0; i < 4; i++) due.is("58: anew", x.tie(kinds[i], 2, 3, 0), i);
        for (int i = 0; i < 4; i++) {
            int[] want = {kinds[i], 2, 3, 0, 0, kinds[i] == 1 ? 23 : 0, 0, 0, NONE, 0};
            for (int what = 0; what < 10; what++) due.is("58: " + i + " has its own " + what, x.told(i, what), want[what]);
        }
        due.is("58: the line has no stops", x.train(line, 0, 0, 0), NONE);
        due.is("58: other states", x.told(parcel, 7), 0);
        due.is("58: a cell", x.cell(0), 4);
        due.is("58: its use", x.water(4, 0, 0), 0);
        due.is("58: its source", x.water(4, 1, 0), 0);
        due.is("58: a person", x.person(4, 1, 1), 4);
        int[] want = {4, 1, 1, 4, NONE, 0, 0, 0};
        for (int what = 0; what < 8; what++) due.is("58: has its own " + what, x.is(4, what), want[what]);
        for (int i = 4; i < 39; i++) x.tie(0, 0, 1, 0);
        int last = x.tie(2, 0, 1, 0);
        for (int i = 1; i <= 8; i++) due.is("36: the last tie", x.stop(last, i & 1, i), i);
        for (int i = 0; i < 8; i++) due.is("37: the last tie", x.train(last, 0, i, 0), i == 0 ? 0 : (i + 1) * (i + 2) / 2 - 1 + 2 * (i - 1));
    }

    /** Letters and calls that go on, behind others that are gone, are still what they were. */
    private static void newsInOrder() {
        CutCity x = city();
        int wire = x.tie(4, 0, 1, 10);
        x.letter(0, 1);
        x.die(0);
        x.letter(0, 2);
        x.die(1);
        x.letter(1, 4);
        x.die(2);
        x.letter(0, 3);
        x.call(wire, 2, 10);
        x.call(wire, 0, 45);
        x.call(wire, 1, 10);
        x.keep();
        for (int round = 0; round < 3; round++) {
            String known = "";
            String calls = "";
            for (int i = 0; i < 7; i++) {
                x.run(1);
                known += x.is(0, 7) + "" + x.is(2, 7) + x.is(1, 6) + " ";
                calls += x.told(wire, 9);
            }
            due.that("20: calls by rank: " + calls, calls.equals("2111110"));
            due.that("19: a call brings all: " + known, known.startsWith("111 "));
            x.back();
        }
        CutCity y = city();
        y.letter(0, 1);
        y.die(0);
        y.letter(0, 2);
        y.die(1);
        y.letter(1, 4);
        y.die(2);
        y.letter(0, 3);
        y.keep();
        for (int round = 0; round < 3; round++) {
            String known = "";
            for (int i = 0; i < 6; i++) {
                y.run(1);
                known += y.is(0, 7) + "" + y.is(2, 7) + y.is(1, 6) + y.count(7) + " ";
            }
            due.that("19: letters: " + known, known.equals("0004 0003 1002 1101 1110 1110 "));
            y.back();
        }
    }

    private static void kinOfMany() {
        java.util.Random r = new java.util.Random(3);
        for (int run = 0; run < 30; run++) {
            CutCity x = new CutCity();
            Model m = new Model();
            x.cell(0);
            m.cell(0);
            for (int i = 0; i < 20; i++) {
                x.person(0, 1, 1);
                m.person(0, 1, 1);
            }
            for (int i = 0; i < 40; i++) {
                int one = r.nextInt(20), other = r.nextInt(20), c = 1 + r.nextInt(run % 5 + 1);
                x.tie(5, one, other, c);
                m.tie(5, one, other, c);
            }
            for (int i = 0; i < 20; i++) for (int k = 0; k < 20; k++) due.is("15: run " + run, x.kinship(i, k), m.kinship(i, k));
        }
    }
}
