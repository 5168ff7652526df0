/** The edges of promises 33 to 40, each on both sides: water, trains, files. */
public final class WaterEdgeTest {
    private static final int BAD = CutCity.BAD, FULL = CutCity.FULL, NONE = CutCity.NONE, KIND = CutCity.KIND;
    private static final int MIN = Integer.MIN_VALUE, MAX = Integer.MAX_VALUE;
    private static final Due due = new Due("WaterEdgeTest");
    private static final Edges town = new Edges(due, Town::lay);

    public static void main(String[] args) {
        flow();
        pipes();
        mostWater();
        need();
        stop();
        train();
        halts();
        lines();
        hours();
        file();
        alike();
        figures();
        pairing();
        due.end();
    }

    private static Edges with(Edges.Scene more) {
        return new Edges(due, x -> {
            Town.lay(x);
            more.lay(x);
        });
    }

    private static void flow() {
        town.range("33: SIDES", 1, 40, 3, 60, BAD, (x, v) -> x.flow(v));
        town.taken("33: SIDE 1", 25, x -> x.flow(2));
        town.range("34: SIDE", 0, 0, 1, 25, BAD, (x, v) -> x.lack(v));
    }

    private static void pipes() {
        for (int use : new int[] {0, 1, 24, 25, 26, 999}) {
            town.then("33: by a PIPE of 25 to a USE of " + use, Math.min(use, 25), x -> x.water(1, 0, use), x -> x.flow(2));
            town.then("34: and LACK", Math.max(use - 25, 0), x -> x.water(1, 0, use), x -> x.lack(1));
        }
        for (int c : new int[] {0, 1, 49, 50, 51, 9999}) {
            town.then("33: by a PIPE of " + c + " to a USE of 50", Math.min(c, 50), x -> x.change(Town.PIPE, c), x -> x.flow(2));
        }
        for (int source : new int[] {0, 1, 24, 25, 26, 39, 40, 41, 65, 66, 9999}) {
            town.then("33: SOURCE " + source + " for 0", Math.min(source, 40), x -> x.water(0, 1, source), x -> x.flow(1));
            town.then("33: SOURCE " + source + " for 1", Math.min(source, 25), x -> x.water(0, 1, source), x -> x.flow(2));
            town.then("33: SOURCE " + source + " for both", Math.min(source, 65), x -> x.water(0, 1, source), x -> x.flow(3));
        }
        town.then("33: a WIRE carries none", 25, x -> x.tie(4, 0, 1, 60), x -> x.flow(2));
        town.then("33: a TIE, a STREET, a LINE carry none", 25, x -> x.tie(1, 0, 1, 9) + x.tie(0, 0, 1, 0) + x.tie(2, 0, 1, 0), x -> x.flow(2));
        town.then("33: a second PIPE", 26, x -> x.tie(3, 1, 0, 1), x -> x.flow(2));
        town.then("33: from another CELL", 50, x -> x.tie(3, 2, 1, 25), x -> x.flow(2));
        town.then("33: from another CELL", 49, x -> x.tie(3, 2, 1, 24), x -> x.flow(2));
        town.then("33: a CELL may have what it gives", 70, x -> x.water(2, 0, 30), x -> x.flow(1));
        town.then("33: what others use up is not used", 40, x -> x.water(1, 0, 999), x -> x.flow(1));
    }

    /** Sixteen cells of the greatest uses; the cells of a row, joined to the first one. */
    private static void mostWater() {
        for (int sources = 1; sources < 4; sources++) {
            CutCity x = new CutCity();
            for (int i = 0; i < 16; i++) x.cell(i & 1);
            for (int i = 0; i < 16; i++) x.water(i, 0, 999);
            for (int i = 0; i < sources; i++) x.water(i, 1, 9999);
            for (int i = 1; i < 16; i++) x.tie(3, i, 0, 9999);
            due.is("33: all, of " + sources, x.flow(3), Math.min(16 * 999, sources * 9999));
            due.is("33: half of them, of " + sources, x.flow(1), 8 * 999);
            due.is("34: nothing lacks, of " + sources, x.lack(1), 0);
            x.water(0, 1, 0);
            due.is("34: the first gives none, of " + sources, x.lack(1), sources == 1 ? 8 * 999 : 0);
        }
        CutCity x = new CutCity();
        for (int i = 0; i < 16; i++) x.cell(0);
        for (int i = 0; i < 16; i++) {
            x.water(i, 0, 999);
            x.water(i, 1, 9999);
        }
        due.is("33: each its own", x.flow(1), 16 * 999);
        due.is("33: none there", x.flow(2), 0);
        CutCity y = new CutCity();
        for (int i = 0; i < 2; i++) y.cell(i);
        y.water(0, 1, 9999);
        y.water(1, 0, 999);
        for (int i = 0; i < 40; i++) y.tie(3, i & 1, 1 - (i & 1), 24);
        due.is("33: forty PIPES of 24", y.flow(2), 960);
        y.change(39, 62);
        due.is("33: 998", y.flow(2), 998);
        y.change(0, 25);
        due.is("33: 999", y.flow(2), 999);
        y.change(1, 25);
        due.is("33: 999, no more", y.flow(2), 999);
        due.is("35: the last PIPE", y.need(39, 1), 61);
        CutCity z = new CutCity();
        for (int i = 0; i < 16; i++) z.cell(i / 15);
        z.water(0, 1, 9999);
        z.water(15, 0, 999);
        for (int i = 15; i > 0; i--) z.tie(3, i, i - 1, i == 8 ? 998 : 9999);
        due.is("33: a row of sixteen", z.flow(2), 998);
        due.is("35: each of them is needed", z.need(0, 1), 998);
    }

    private static void need() {
        town.range("35: SIDE", 0, 0, 1, 25, BAD, (x, v) -> x.need(Town.PIPE, v));
        for (int v : new int[] {-1, 12, 40, MIN, MAX}) {
            town.refused("35: PIPE " + v, BAD, x -> x.need(v, 0));
            town.refused("35: PIPE " + v, BAD, x -> x.need(v, 2));
        }
        for (int tie = 0; tie < Town.TIES; tie++) {
            int one = tie;
            if (tie == Town.PIPE) continue;
            town.refused("35: no PIPE " + tie, KIND, x -> x.need(one, 1));
            town.refused("35: BAD ahead of KIND " + tie, BAD, x -> x.need(one, 2));
        }
        int[][] other = {{0, 25}, {1, 25}, {24, 25}, {25, 25}, {26, 24}, {49, 1}, {50, 0}, {51, 0}};
        for (int[] o : other) {
            Edges two = with(x -> {
                x.water(0, 1, 99);
                x.tie(3, 1, 0, o[0]);
            });
            two.taken("35: beside one of " + o[0], o[1], x -> x.need(Town.PIPE, 1));
            two.taken("35: of 25 beside, " + o[0], Math.min(o[0], 25), x -> x.need(12, 1));
            two.then("35: it is there still, " + o[0], Math.min(50, 25 + o[0]), x -> x.need(12, 1), x -> x.flow(2));
        }
    }

    private static void stop() {
        town.range("36: CELL", 0, 3, 4, BAD, (x, v) -> x.stop(Town.LINE, v, 1));
        town.range("36: MINUTES", 0, 59, 4, BAD, (x, v) -> x.stop(Town.LINE, 1, v));
        for (int v : new int[] {-1, 12, 40, MIN, MAX}) town.refused("36: LINE " + v, BAD, x -> x.stop(v, 0, 1));
        for (int tie = 0; tie < Town.TIES; tie++) {
            int one = tie;
            if (tie == Town.LINE) continue;
            town.refused("36: no LINE " + tie, KIND, x -> x.stop(one, 0, 1));
            town.refused("36: BAD ahead of KIND, cell", BAD, x -> x.stop(one, 4, 1));
            town.refused("36: BAD ahead of KIND, minutes", BAD, x -> x.stop(one, 0, 60));
        }
        with(x -> stops(x, 7)).taken("36: the 8th", 8, x -> x.stop(Town.LINE, 1, 59));
        Edges full = with(x -> stops(x, 8));
        full.refused("36: the 9th", FULL, x -> x.stop(Town.LINE, 0, 0));
        full.refused("36: BAD ahead of FULL, cell", BAD, x -> x.stop(Town.LINE, -1, 0));
        full.refused("36: BAD ahead of FULL, minutes", BAD, x -> x.stop(Town.LINE, 0, -1));
        full.taken("36: another LINE", 1, x -> x.stop(x.tie(2, 0, 1, 0), 0, 0));
        full.taken("37: the 8th", 0, x -> x.train(Town.LINE, 0, 7, 1));
        full.refused("37: no 9th", NONE, x -> x.train(Town.LINE, 0, 8, 1));
        for (int v : new int[] {0, 1, 58, 59}) {
            town.then("37: MINUTES " + v, 32 + v, x -> x.stop(Town.LINE, 0, v), x -> x.train(Town.LINE, 0, 3, 0));
        }
    }

    private static void stops(CutCity x, int upTo) {
        for (int i = 3; i < upTo; i++) x.stop(Town.LINE, 0, 1);
    }

    private static void train() {
        town.range("37: MINUTE", 0, 59, 10, BAD, (x, v) -> x.train(Town.LINE, v, 1, 0));
        town.range("37: what", 0, 10, 1, 1, BAD, (x, v) -> x.train(Town.LINE, 0, 1, v));
        for (int v : new int[] {-1, 12, 40, MIN, MAX}) {
            town.refused("37: LINE " + v, BAD, x -> x.train(v, 0, 0, 0));
            town.refused("37: BAD ahead of NONE", BAD, x -> x.train(v, 0, 9, 0));
        }
        for (int tie = 0; tie < Town.TIES; tie++) {
            int one = tie;
            if (tie == Town.LINE) continue;
            town.refused("37: no LINE " + tie, KIND, x -> x.train(one, 0, 0, 0));
            town.refused("37: KIND ahead of NONE " + tie, KIND, x -> x.train(one, 0, -1, 0));
            town.refused("37: BAD ahead of KIND, minute", BAD, x -> x.train(one, 60, 0, 0));
            town.refused("37: BAD ahead of KIND, what", BAD, x -> x.train(one, 0, 0, 2));
        }
        for (int what = 0; what < 2; what++) {
            int w = what;
            town.range("37: stop", 0, w, 2, w == 0 ? 32 : 0, NONE, (x, v) -> x.train(Town.LINE, 0, v, w));
            town.refused("37: BAD ahead of NONE, minute", BAD, x -> x.train(Town.LINE, -1, 3, w));
        }
        town.refused("37: BAD ahead of NONE, what", BAD, x -> x.train(Town.LINE, 0, 3, 2));
        with(x -> x.tie(2, 0, 1, 0)).refused("37: a LINE without stops", NONE, x -> x.train(12, 0, 0, 0));
    }

    /** Eight stops, all of one minute, with a law by which the train halts: minutes to the last one. */
    private static void halts() {
        String[] words = {"0", "1", "0-1", "i=0", "i=1", "i=6", "i=7", "i<7", "i>0", "s", "!s", "i/8", "1/i"};
        int[] minutes = {7, 19, 19, 7, 9, 9, 7, 19, 19, 13, 13, 7, 9};
        int[] last = {0, 1, 1, 0, 0, 0, 1, 0, 1, 1, 0, 0, 0};
        int[] first = {0, 1, 1, 1, 0, 0, 0, 1, 0, 0, 1, 0, 0};
        for (int i = 0; i < words.length; i++) {
            CutCity x = eight(words[i], words[i], 1);
            due.is("37: halt " + words[i], x.train(0, 0, 7, 0), minutes[i]);
            due.is("37: halt " + words[i] + " at the last", x.train(0, 0, 7, 1), last[i]);
            due.is("37: halt " + words[i] + " at the first", x.train(0, 0, 0, 1), first[i]);
        }
        for (int m : new int[] {0, 1, 58, 59}) {
            CutCity x = eight("1", "0", m);
            for (int i = 0; i < 8; i++) {
                due.is("37: MINUTES " + m + " to " + i, x.train(0, 59, i, 0), i * m + 2 * Math.max(0, (i - 1) / 2));
                due.is("37: MINUTES " + m + ", halts at " + i, x.train(0, 59, i, 1), 1 - i % 2);
            }
        }
        CutCity x = eight("", "", 59);
        due.is("37: without TEXTS all halt", x.train(0, 59, 7, 0), 7 * 59 + 6 * 2);
        due.is("37: without TEXTS all halt", x.train(0, 59, 7, 1), 1);
    }

    /** A line whose even stops are on side 0 and odd ones on side 1, each of so many minutes; a law of each side. */
    private static CutCity eight(String word, String other, int minutes) {
        CutCity x = new CutCity();
        for (int i = 0; i < 2; i++) x.cell(i);
        x.tie(2, 0, 1, 0);
        for (int i = 0; i < 8; i++) x.stop(0, i & 1, minutes);
        if (!word.isEmpty()) Town.law(x, 0, 0, "halt " + word);
        if (!other.isEmpty()) Town.law(x, 1, 0, "halt " + other);
        return x;
    }

    /** Lines of all numbers, each with its own stops: only those on side 1 are halted at. */
    private static void lines() {
        for (int first = 0; first < 40; first += 8) {
            CutCity x = new CutCity();
            for (int i = 0; i < 2; i++) x.cell(i);
            Town.law(x, 0, 0, "halt 0");
            for (int line = 0; line < 40; line++) x.tie(2, 0, 1, 0);
            for (int line = first; line < first + 8; line++) {
                for (int i = 0; i < 8; i++) x.stop(line, (line * 37 + 11) >> i & 1, line + i);
            }
            for (int line = first; line < first + 8; line++) {
                int gone = 0;
                for (int i = 0; i < 8; i++) {
                    int halts = (line * 37 + 11) >> i & 1;
                    if (i > 0) gone += line + i;
                    due.is("37: LINE " + line + " to " + i, x.train(line, 0, i, 0), gone);
                    due.is("37: LINE " + line + " halts at " + i, x.train(line, 0, i, 1), halts);
                    if (i > 0) gone += 2 * halts;
                }
            }
        }
    }

    /** Where the clock is the next one: at the full hour, and 0 behind 23. */
    private static void hours() {
        for (int hour : new int[] {0, 1, 11, 22, 23, 24, 47}) {
            for (int m : new int[] {0, 1, 59}) {
                for (int minute : new int[] {0, 1, 58, 59}) {
                    CutCity x = new CutCity();
                    x.cell(0);
                    x.cell(0);
                    x.tie(2, 0, 1, 0);
                    x.stop(0, 1, 59);
                    x.stop(0, 0, m);
                    int clock = (hour + (minute + m >= 60 ? 1 : 0)) % 24;
                    Due.law(x, 0, 0, "halt i=0&h=" + hour % 24 + "|i=1&h=" + clock);
                    if (hour > 0) x.run(hour);
                    due.is("37: the first one in " + hour + " at " + minute, x.train(0, minute, 0, 1), 1);
                    due.is("37: " + m + " behind " + hour + "." + minute, x.train(0, minute, 1, 1), 1);
                }
            }
        }
        CutCity x = eight("h=8", "1", 59);
        due.is("37: stops 1, 3, 5 halt", x.train(0, 59, 6, 0), 6 * 59 + 3 * 2);
        due.is("37: at 6.59", x.train(0, 59, 6, 1), 0);
        x.run(1);
        due.is("37: at 7.59", x.train(0, 59, 6, 1), 0);
        x.run(1);
        due.is("37: at 8.00", x.train(0, 0, 6, 1), 1);
        due.is("37: at 8.59", x.train(0, 59, 6, 1), 1);
        x.run(1);
        due.is("37: at 9.00", x.train(0, 0, 6, 1), 0);
        CutCity y = eight("1", "h=8", 59);
        due.is("37: stops 2, 4, 6 halt", y.train(0, 59, 7, 0), 7 * 59 + 3 * 2);
        due.is("37: at 7.58", y.train(0, 59, 7, 1), 0);
        y.run(1);
        due.is("37: at 7.59", y.train(0, 0, 7, 1), 0);
        due.is("37: at 8.00", y.train(0, 1, 7, 1), 1);
    }

    private static void file() {
        town.range("38: SIDE", 0, 1, 2, BAD, (x, v) -> x.file(v, 1, 1));
        town.range("38: NAME", 0, 9999, 2, BAD, (x, v) -> x.file(0, v, 1));
        town.range("38: AGE", 0, 99, 2, BAD, (x, v) -> x.file(0, 1, v));
        for (int side = 0; side < 2; side++) {
            int s = side;
            with(x -> files(x, s, 9)).taken("38: the 10th", 9, x -> x.file(s, 9999, 99));
            Edges full = with(x -> files(x, s, 10));
            full.refused("38: the 11th", FULL, x -> x.file(s, 1, 1));
            full.refused("38: BAD ahead of FULL, name", BAD, x -> x.file(s, 10000, 1));
            full.refused("38: BAD ahead of FULL, age", BAD, x -> x.file(s, 1, -1));
            full.refused("38: BAD ahead of FULL, side", BAD, x -> x.file(2, 1, 1));
            full.taken("38: of the other SIDE", 2, x -> x.file(1 - s, 1, 1));
            full.taken("59: ten", 10, x -> x.count(13 + s));
            full.taken("39: the 10th", 0, x -> s == 0 ? x.alike(9, 1) : x.alike(1, 9));
            full.refused("39: no 11th", BAD, x -> s == 0 ? x.alike(10, 1) : x.alike(1, 10));
        }
    }

    private static void files(CutCity x, int side, int upTo) {
        for (int i = 2; i < upTo; i++) x.file(side, 7000 + i, 80);
    }

    private static void alike() {
        town.range("39: FILE of SIDE 0", 0, 2, 1, 0, BAD, (x, v) -> x.alike(v, 1));
        town.range("39: FILE of SIDE 1", 0, 1, 1, 2, BAD, (x, v) -> x.alike(0, v));
        int[] names = {1234, 1243, 1235, 2134, 1324, 1432, 1245, 9999};
        int[] like = {2, 1, 1, 1, 1, 0, 0, 0};
        for (int k = 0; k < names.length; k++) {
            for (int[] ages : new int[][] {{0, 0}, {0, 1}, {1, 0}, {0, 2}, {2, 0}, {98, 99}, {99, 98}, {97, 99}, {99, 97}, {99, 99}, {0, 99}, {50, 49}, {50, 48}}) {
                CutCity x = new CutCity();
                x.file(0, 1234, ages[0]);
                x.file(1, names[k], ages[1]);
                int want = Math.abs(ages[0] - ages[1]) < 2 ? like[k] : 0;
                due.is("39: " + names[k] + " of AGES " + ages[0] + ", " + ages[1], x.alike(0, 0), want);
                due.is("40: SURE of " + names[k], x.pairing(0), want == 2 ? 1 : 0);
                due.is("40: MAY BE of " + names[k], x.pairing(1), want == 1 ? 1 : 0);
                due.is("40: pair of " + names[k], x.pairing(2), want > 0 ? 0 : NONE);
            }
        }
    }

    private static String four(int name) {
        return String.valueOf(10000 + name).substring(1);
    }

    /** By the figures as they are written. */
    private static int byFigures(String one, String other) {
        if (one.equals(other)) return 2;
        for (int i = 0; i < 4; i++) {
            if ((one.substring(0, i) + one.substring(i + 1)).equals(other.substring(0, i) + other.substring(i + 1)) && one.charAt(i) != other.charAt(i)) return 1;
            if (i < 3 && (one.substring(0, i) + one.charAt(i + 1) + one.charAt(i) + one.substring(i + 2)).equals(other)) return 1;
        }
        return 0;
    }

    /** All names against some. */
    private static void figures() {
        for (int name : new int[] {0, 1, 1234, 9999, 1010, 1122, 9090, 1000, 3}) {
            for (int from = 0; from < 10000; from += 10) {
                CutCity x = new CutCity();
                x.file(0, name, 5);
                for (int k = 0; k < 10; k++) x.file(1, from + k, 5);
                for (int k = 0; k < 10; k++) due.is("39: " + name + ", " + (from + k), x.alike(0, k), byFigures(four(name), four(from + k)));
            }
        }
    }

    private static void pairing() {
        town.range("40: what", 0, 1, 3, NONE, BAD, (x, v) -> x.pairing(v));
        town.taken("40: MAY BE", 0, x -> x.pairing(1));
        town.taken("40: FILE 0", 1, x -> x.pairing(2));
        for (int n = 0; n < 11; n++) {
            CutCity x = new CutCity();
            for (int i = 0; i < n; i++) x.file(0, 1000 + i, 5);
            for (int i = 0; i < 10; i++) x.file(1, 1009 - i, 5);
            due.is("40: SURE of " + n, x.pairing(0), n);
            due.is("40: MAY BE of " + n, x.pairing(1), 0);
            for (int i = 0; i < n; i++) due.is("40: of " + n + ", FILE " + i, x.pairing(2 + i), 9 - i);
            due.is("40: of " + n + ", no more", x.pairing(2 + n), BAD);
            due.is("40: below", x.pairing(-1), BAD);
        }
        CutCity x = new CutCity();
        for (int i = 0; i < 10; i++) x.file(0, 1100 + i, 5);
        for (int i = 0; i < 10; i++) x.file(1, 2100, 5);
        due.is("40: one of ten alike", x.pairing(0), 0);
        due.is("40: one of ten alike", x.pairing(1), 1);
        due.is("40: the first", x.pairing(2), 0);
        due.is("40: the last has none", x.pairing(11), NONE);
        CutCity y = new CutCity();
        for (int i = 0; i < 10; i++) y.file(0, 1000 + i, 5);
        for (int i = 0; i < 10; i++) y.file(1, 1020 + i, 5);
        due.is("40: all may be", y.pairing(1), 10);
        for (int i = 0; i < 10; i++) due.is("40: each the one of its last figure", y.pairing(2 + i), i);
        giveWay();
    }

    /** One sure pair counts for more than ten that may be; of as many the first file's least one. */
    private static void giveWay() {
        CutCity x = new CutCity();
        for (int i = 0; i < 10; i++) x.file(0, 1000 + i, 5);
        for (int i = 1; i < 10; i++) x.file(1, 1000 + (i + 1) % 10, 6);
        x.file(1, 1001, 5);
        due.is("40: SURE", x.pairing(0), 10);
        due.is("40: MAY BE", x.pairing(1), 0);
        CutCity y = new CutCity();
        y.file(0, 1000, 5);
        y.file(0, 1001, 5);
        y.file(1, 1002, 5);
        y.file(1, 1000, 7);
        y.file(1, 1003, 4);
        due.is("40: FILE 0 has the least", y.pairing(2), 0);
        due.is("40: FILE 1 the next", y.pairing(3), 2);
        CutCity z = new CutCity();
        z.file(0, 1000, 5);
        z.file(0, 1001, 5);
        z.file(1, 1001, 5);
        due.is("40: NONE if another is SURE", z.pairing(2), NONE);
        due.is("40: the SURE one", z.pairing(3), 0);
    }
}
