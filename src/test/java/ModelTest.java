import java.lang.reflect.Method;
import java.util.Arrays;
import java.util.HashMap;
import java.util.Map;
import java.util.Random;

/** Runs of calls, most of them with arguments that can be, on the class and on the model: all answers are the same. */
public final class ModelTest {
    private static final String[] MOODS = {
        "cell*2 person*4 tie*6 pass*5 parcel*2 told*6 as change*2 gate*2 kinship*2 take why*3 ask*14 letter*2 call*3 run*12 is*8 be die*2 law*3 strike keep back tell check*2 count*2 may*2",
        "cell*2 person*5 tie*2 pass*3 parcel*3 law*14 of*3 strike*2 counts*5 may*6 unlike*3 visits*3 changed*4 house*4 coin*2 run*2 why*3 feed trim text be kinship train*2 stop",
        "cell*3 water*8 tie*6 flow*4 lack*3 need*3 change*3 stop*8 train*14 law*3 run keep back",
        "file*8 alike*8 pairing*10 keep back count",
        "meter*3 put*20 read*8 copy*5 wrong*2 owed*8 coin*4 rule*2 law run keep back",
        "feast*30 waiting*6 gates rule keep back",
        "clause*4 plan*3 planned*2 rule*2 tell*8 check*3 keep back",
        "cell person tie pass parcel told as change gate kinship take why ask letter call run feed trim text law of strike counts may unlike visits changed house flow lack need stop train file alike pairing meter put read copy wrong owed coin rule feast waiting gates clause plan planned tell check keep back count is be die water",
    };

    /** Many who may cross, with passes that are open: most hours see somebody wait, cross or come home. */
    private static final String CROWD =
        "ask*30 run*14 is*12 told*6 why*3 take die*2 letter*4 call*6 change*2 gate*2 pass*2 be back*2 keep check*2 count*4 may";

    private static final int LAST_CALL = 512;

    private static final Map<String, Method> OURS = methods(CutCity.class);
    private static final Map<String, Method> THEIRS = methods(Model.class);

    private final Random random;
    private final CutCity x = new CutCity();
    private final Model m = new Model();
    private final StringBuilder story = new StringBuilder();
    private int calls = 0;
    private String firstOff = null;

    private ModelTest(long seed) {
        random = new Random(seed);
    }

    private static Map<String, Method> methods(Class<?> of) {
        Map<String, Method> all = new HashMap<>();
        for (Method one : of.getDeclaredMethods()) {
            if (java.lang.reflect.Modifier.isPublic(one.getModifiers())) all.put(one.getName(), one);
        }
        return all;
    }

    public static void main(String[] args) throws Exception {
        int runs = args.length > 0 ? Integer.parseInt(args[0]) : 800;
        int from = args.length > 1 ? Integer.parseInt(args[1]) : 0;
        Due due = new Due("ModelTest");
        Map<String, Integer> told = new HashMap<>();
        for (int i = from; i < from + runs; i++) {
            int mood = i % (MOODS.length + 1);
            String off = mood < MOODS.length ? new ModelTest(i).settle(MOODS[mood], told) : new ModelTest(i).crowd(told);
            due.that("run " + i + " as the model's: " + off, off == null);
        }
        for (String name : OURS.keySet()) due.that(name + " is compared", told.getOrDefault(name, 0) > 0);
        if (args.length > 2) told.entrySet().stream().sorted(Map.Entry.comparingByKey()).forEach(e -> System.out.println(e));
        due.end();
    }

    private String settle(String mood, Map<String, Integer> told) throws Exception {
        if (random.nextInt(4) > 0) {
            for (int i = 0; i < 3; i++) both("cell", told, i & 1);
            for (int i = 0; i < 4; i++) both("person", told, i % 3, random.nextInt(100), random.nextInt(4));
            if (random.nextBoolean()) for (int i = 0; i < 2; i++) speak("cross " + (random.nextBoolean() ? "1" : "a>" + random.nextInt(40)), i, 0, told);
            if (random.nextBoolean()) for (int i = 0; i < 2; i++) speak("carry w<" + random.nextInt(99), i, 0, told);
        }
        return play(mood, told);
    }

    private String crowd(Map<String, Integer> told) throws Exception {
        for (int i = 0; i < 6; i++) both("cell", told, i & 1);
        for (int i = 0; i < 12; i++) both("person", told, random.nextInt(6), random.nextInt(100), random.nextInt(4));
        String[] laws = {"cross 1", "cross d<6", "cross a>9|k", "cross k<5"};
        for (int i = 0; i < 2; i++) speak(laws[random.nextInt(laws.length)], i, 0, told);
        for (int i = 0; i < 2; i++) speak("carry w<90", i, 0, told);
        int[] ends = {0, 1, 3, 2, 0, 2, 1, 3, 4, 1};
        for (int i = 0; i < ends.length; i += 2) both("tie", told, 1, ends[i], ends[i + 1], 1 + random.nextInt(3));
        for (int i = 0; i < 2; i++) both("tie", told, 4, i, 2 + i, 3 + random.nextInt(20));
        for (int i = 0; i < 4; i++) both("tie", told, 5, person(), person(), 1 + random.nextInt(4));
        for (int i = 0; i < 24; i++) both("pass", told, passArgs());
        for (int i = 0; i < 3; i++) both("parcel", told, args("parcel"));
        both("keep", told);
        return play(CROWD, told);
    }

    private String play(String mood, Map<String, Integer> told) throws Exception {
        java.util.List<String> acts = new java.util.ArrayList<>();
        for (String one : mood.split(" ")) {
            String[] parts = one.split("\\*");
            for (int i = 0; i < (parts.length == 1 ? 1 : Integer.parseInt(parts[1])); i++) acts.add(parts[0]);
        }
        while (calls < LAST_CALL) {
            String act = acts.get(random.nextInt(acts.size()));
            if (act.equals("back") && random.nextInt(8) > 0) continue;
            if (act.equals("ask") && m.count(5) == 0) act = "back";
            if (act.equals("law")) {
                if (random.nextInt(3) == 0) speak(Laws.any(random), side(), day(), told);
            } else if (act.equals("check") && random.nextBoolean()) {
                tellRows(told);
            } else if (!isTooDear(act)) {
                both(act, told, args(act));
            }
            if (firstOff != null) return firstOff;
        }
        return null;
    }

    /** The model goes through all ways, which are too many of some. */
    private boolean isTooDear(String act) {
        switch (act) {
            case "file": return m.count(13) > 5 || m.count(14) > 5;
            case "clause": return m.count(9) > 4 && random.nextInt(4) > 0;
            case "cell": return m.count(0) > 6 && random.nextInt(9) > 0;
            case "flow": case "lack": case "need": return m.count(0) > 10 && random.nextInt(20) > 0;
            default: return false;
        }
    }

    /** One call on both, unless an object has had all calls for which answers are promised, or one was off already. */
    private void both(String act, Map<String, Integer> told, int... args) throws Exception {
        if (calls == LAST_CALL || firstOff != null) return;
        calls++;
        Object[] boxed = Arrays.stream(args).boxed().toArray();
        int got = (Integer) OURS.get(act).invoke(x, boxed);
        int want = (Integer) THEIRS.get(act).invoke(m, boxed);
        String call = act + Arrays.toString(args);
        story.append(call).append(" -> ").append(want).append('\n');
        told.merge(act, 1, Integer::sum);
        told.merge(act + (want <= -1000000001 ? " " + want : want < 0 ? " -" : ""), 1, Integer::sum);
        if (got != want) firstOff = story + call + " answered " + got + ", the model " + want;
    }

    private void speak(String word, int side, int day, Map<String, Integer> told) throws Exception {
        both("trim", told, 0);
        for (int i = 0; i < word.length(); i += 12) {
            both("feed", told, Feeder.four(word, i), Feeder.four(word, i + 4), Feeder.four(word, i + 8));
        }
        both("trim", told, word.length());
        story.append(word).append('\n');
        both("text", told, side, day);
    }

    /** Tells rows that are due, or almost, and has them checked. */
    private void tellRows(Map<String, Integer> told) throws Exception {
        both("check", told, 0, 0);
        boolean order = random.nextBoolean();
        int n = order ? 1 + random.nextInt(40) : 1 + random.nextInt(24);
        java.util.List<Integer> rows = new java.util.ArrayList<>();
        if (order) {
            int years = m.plan(n, 20000);
            for (int i = 0, sum = 0; i < years; i++) {
                rows.add(m.planned(n, i));
                sum += m.s.clauses.get(m.planned(n, i)).visits;
                rows.add(sum);
            }
        } else if (m.image != null) {
            Model.State t = m.image.twin();
            for (int i = 0; i < n; i++) {
                t.anHour();
                rows.add(t.waitAll());
                rows.add(t.abroad());
            }
        }
        if (random.nextInt(4) == 0) rows.add(1);
        if (random.nextInt(4) == 0 && !rows.isEmpty()) rows.remove(rows.size() - 1);
        if (random.nextInt(4) == 0 && !rows.isEmpty()) rows.set(random.nextInt(rows.size()), random.nextInt(3));
        for (int v : rows) both("tell", told, v);
        both("check", told, order ? 0 : 1, n);
    }

    private int pick(int least, int most) {
        if (random.nextInt(30) == 0) {
            int[] odd = {least - 1, most + 1, -1, Integer.MIN_VALUE, Integer.MAX_VALUE, CutCity.NONE, random.nextInt()};
            return odd[random.nextInt(odd.length)];
        }
        if (random.nextInt(12) == 0) return random.nextBoolean() ? least : most;
        return least + random.nextInt(Math.max(1, most - least + 1));
    }

    private int side() {
        return pick(0, 1);
    }

    private int day() {
        return random.nextInt(3) > 0 ? pick(0, Math.min(416, m.s.day() + 3)) : pick(0, 416);
    }

    private int cellOf() {
        return pick(0, m.count(0) - 1);
    }

    private int person() {
        return pick(0, m.count(1) - 1);
    }

    private int anyTie() {
        return pick(0, m.count(4) - 1);
    }

    private int tie(int kind) {
        java.util.List<Integer> all = new java.util.ArrayList<>();
        for (int i = 0; i < m.count(4); i++) if (m.told(i, 0) == kind) all.add(i);
        return all.isEmpty() || random.nextInt(20) == 0 ? anyTie() : all.get(random.nextInt(all.size()));
    }

    /** A pass that can be asked for, mostly, if there is one. */
    private int pass() {
        java.util.List<Integer> all = new java.util.ArrayList<>();
        for (int i = 0; i < m.count(4); i++) if (m.why(i) == 0) all.add(i);
        return all.isEmpty() || random.nextInt(6) == 0 ? tie(6) : all.get(random.nextInt(all.size()));
    }

    private int[] passArgs() {
        int one = person(), other = person();
        for (int i = 0; i < 20 && m.isPerson(one) && m.isPerson(other) && m.s.side(one) == m.s.side(other) && random.nextInt(12) > 0; i++) other = person();
        return of(one, other, pick(1, random.nextInt(3) > 0 ? 6 : 99), days());
    }

    private int text() {
        return pick(0, m.count(6) - 1);
    }

    private int meterDay() {
        return pick(0, random.nextInt(4) > 0 ? 9 : 30);
    }

    private int days() {
        int first = Math.max(0, m.s.day() - 1 + random.nextInt(3));
        return random.nextInt(6) > 0 ? 1000 * first + first + random.nextInt(4) : 1000 * pick(0, 416) + pick(0, 416);
    }

    private int half() {
        return random.nextInt(3) > 0 ? pick(-9, 30) : pick(-99, 99);
    }

    private int reading() {
        if (random.nextInt(5) == 0) return CutCity.NONE;
        if (random.nextInt(6) == 0) return pick(-100000, 100000);
        return random.nextInt(8) == 0 ? random.nextInt() : pick(90, 110);
    }

    private int[] args(String act) {
        switch (act) {
            case "cell": case "letter": case "visits": case "lack": return act.equals("letter") ? of(side(), pick(1, 20)) : of(side());
            case "water": return of(cellOf(), pick(0, 1), pick(0, random.nextBoolean() ? 40 : 999));
            case "person": return of(cellOf(), pick(0, 99), pick(0, 3));
            case "is": return of(person(), pick(0, 7));
            case "be": return of(person(), pick(1, 2), pick(0, random.nextBoolean() ? 3 : 99));
            case "die": return of(person());
            case "tie": return tieArgs();
            case "pass": return passArgs();
            case "parcel": return of(tie(6), pick(1, 99), pick(0, 7));
            case "told": return of(anyTie(), pick(0, 9));
            case "as": return of(anyTie(), pick(0, 7));
            case "change": return of(anyTie(), pick(0, random.nextBoolean() ? 9 : 60));
            case "gate": return of(tie(1), pick(0, 23), pick(0, 23));
            case "kinship": return of(person(), person());
            case "take": case "why": return of(tie(6));
            case "ask": return of(pass(), tie(1));
            case "call": return of(tie(4), pick(0, 9), pick(1, random.nextInt(3) > 0 ? 12 : 99));
            case "run": return of(random.nextInt(6) > 0 ? pick(1, 4) : pick(1, random.nextBoolean() ? 30 : 100));
            case "feed": return of(random.nextInt(), Feeder.four("cross a<12", 0), Feeder.four("cross a<12", 4));
            case "trim": return of(pick(0, m.count(11)));
            case "text": return of(side(), day());
            case "of": return of(text(), pick(0, 4));
            case "strike": case "changed": return of(text());
            case "counts": return of(side(), pick(0, 4));
            case "may": return of(tie(6), side());
            case "unlike": return of(text(), text(), pick(0, 1));
            case "house": return of(side(), pick(0, 99), pick(0, 99), pick(0, 99));
            case "flow": return of(pick(1, 3));
            case "need": return of(tie(3), side());
            case "stop": return of(tie(2), cellOf(), pick(0, 59));
            case "train": return of(tie(2), pick(0, 59), pick(0, 5), pick(0, 1));
            case "file": return of(side(), random.nextBoolean() ? pick(1230, 1245) : name(), pick(30, 33));
            case "alike": return of(pick(0, m.count(13) - 1), pick(0, m.count(14) - 1));
            case "pairing": return of(pick(0, 1 + m.count(13)));
            case "meter": return of(side(), pick(-1, 1), pick(0, random.nextBoolean() ? 12 : 30));
            case "put": return of(side(), meterDay(), reading());
            case "read": return of(side(), meterDay());
            case "copy": return of(side(), pick(0, 9), side(), pick(0, 9), pick(0, 5));
            case "wrong": return of(side(), random.nextBoolean() ? CutCity.NONE : meterDay());
            case "owed": return of(meterDay());
            case "coin": return of(side(), meterDay());
            case "rule": return of(pick(0, 1), pick(0, random.nextBoolean() ? 30 : 100));
            case "feast": return of(pick(0, 7), random.nextInt(3) == 0 ? 12 : pick(0, 12), pick(0, random.nextBoolean() ? 20 : 99));
            case "waiting": return of(pick(1, 255));
            case "gates": return of(pick(1, 8));
            case "clause": return of(half(), half(), pick(0, 20));
            case "plan": return of(pick(1, random.nextBoolean() ? 60 : 999), pick(1, random.nextBoolean() ? 200 : 20000));
            case "planned": return of(pick(1, 60), pick(0, 4));
            case "tell": return of(pick(0, 5));
            case "check": return of(pick(0, 1), pick(1, 24));
            case "count": return of(pick(0, 14));
            default: return of();
        }
    }

    private int name() {
        int[] names = {1234, 1243, 2134, 1324, 234, 1, 10, 100, 1000, 0, 9999, 3412};
        return names[random.nextInt(names.length)];
    }

    private int[] tieArgs() {
        int kind = pick(0, 5);
        int[] most = {0, 3, 0, 40, 20, 5};
        int c = kind >= 0 && kind <= 5 ? pick(kind == 5 ? 1 : 0, most[kind]) : 0;
        return kind == 5 ? of(kind, person(), person(), c) : of(kind, cellOf(), cellOf(), c);
    }

    private static int[] of(int... args) {
        return args;
    }

    /** Words that are texts, or were before a byte of them was changed. */
    private static final class Laws {
        static String any(Random r) {
            int key = r.nextInt(5);
            StringBuilder b = new StringBuilder();
            if (r.nextInt(5) == 0) b.append(' ');
            b.append(Model.KEYS[key]);
            if (r.nextInt(15) > 0) b.append(' ');
            b.append(part(r, Model.NAMES[key], 1 + r.nextInt(4)));
            if (r.nextInt(5) == 0) b.append("  ");
            if (r.nextInt(4) == 0) spoil(r, b);
            return b.length() > 96 ? b.substring(0, 96) : b.toString();
        }

        private static void spoil(Random r, StringBuilder b) {
            int at = r.nextInt(b.length());
            String odd = "ab1!( )<=>+-*/&|A" + (char) 200 + (char) 0;
            char c = odd.charAt(r.nextInt(odd.length()));
            if (r.nextBoolean()) b.setCharAt(at, c);
            else if (r.nextBoolean()) b.insert(at, c);
            else b.deleteCharAt(at);
        }

        private static String part(Random r, String names, int depth) {
            int sort = depth <= 0 ? r.nextInt(3) : r.nextInt(12);
            if (sort == 0) return String.valueOf(r.nextInt(r.nextBoolean() ? 10 : 12000));
            if (sort < 3) return String.valueOf(names.charAt(r.nextInt(names.length())));
            if (sort == 3) return "!".repeat(1 + r.nextInt(r.nextInt(8) == 0 ? 9 : 2)) + part(r, names, depth - 1);
            if (sort == 4) {
                int n = 1 + r.nextInt(r.nextInt(8) == 0 ? 9 : 2);
                return "(".repeat(n) + part(r, names, depth - 1) + ")".repeat(n);
            }
            String signs = "|&<=>+-*/";
            String sign = String.valueOf(signs.charAt(r.nextInt(signs.length())));
            if (r.nextInt(4) == 0) sign = " " + sign + " ";
            String a = part(r, names, depth - 1), b = part(r, names, depth - 1);
            return r.nextInt(3) == 0 ? "(" + a + sign + b + ")" : a + sign + b;
        }
    }
}
