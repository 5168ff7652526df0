import java.util.ArrayList;
import java.util.Arrays;
import java.util.Collections;
import java.util.HashMap;
import java.util.List;
import java.util.Map;
import java.util.TreeSet;

/**
 * The document once more, as plainly as it can be told: lists of objects, all ways gone through.
 * It has the face of CutCity and is compared with it call by call.
 */
public final class Model {
    static final int BAD = -1000000001, NO = -1000000002, FULL = -1000000003, SPENT = -1000000004, NONE = -1000000005;
    static final int NOTHING = -1000000011, KIND = -1000000012, INDEX = -1000000013, SIZE = -1000000014;

    static class Cell { int side, use, source; }
    static class Person { int home, age, papers; Integer cell; int street = NONE, pass = NONE; boolean dead; }
    static class Stop { int cell, minutes; }
    static class Tie {
        int kind, one, other, c, from, to, state, stuff, ofPass = NONE, ends;
        List<Stop> stops = new ArrayList<>();
        List<Integer> queue = new ArrayList<>();
        List<Call> calls = new ArrayList<>();
    }
    static class Call { int rank, lacks; }
    static class Letter { int due, to; TreeSet<Integer> dead; }
    static class Law { int key, side, day, struck = NONE, parts; Node tree; }
    static class Dossier { String name; int age; }
    static class Clause { int[] worth; int visits; }
    interface Node { int value(Map<Character, Integer> names); }

    /** All that an image keeps. */
    static class State {
        int hour, bound = 10, debt;
        List<Cell> cells = new ArrayList<>();
        List<Person> persons = new ArrayList<>();
        List<Tie> ties = new ArrayList<>();
        List<Law> laws = new ArrayList<>();
        List<Letter> letters = new ArrayList<>();
        List<TreeSet<Integer>> known = List.of(new TreeSet<>(), new TreeSet<>());
        List<List<Dossier>> files = List.of(new ArrayList<>(), new ArrayList<>());
        List<Clause> clauses = new ArrayList<>();
        int[] falseFrom = {NONE, NONE};
        int[][] arrivals = new int[8][12];
        int[] let = new int[8];

        State twin() {
            State t = new State();
            t.hour = hour;
            t.bound = bound;
            t.debt = debt;
            for (Cell c : cells) { Cell d = new Cell(); d.side = c.side; d.use = c.use; d.source = c.source; t.cells.add(d); }
            for (Person p : persons) {
                Person q = new Person();
                q.home = p.home; q.age = p.age; q.papers = p.papers; q.cell = p.cell; q.street = p.street; q.pass = p.pass; q.dead = p.dead;
                t.persons.add(q);
            }
            for (Tie a : ties) {
                Tie b = new Tie();
                b.kind = a.kind; b.one = a.one; b.other = a.other; b.c = a.c; b.from = a.from; b.to = a.to; b.state = a.state;
                b.stuff = a.stuff; b.ofPass = a.ofPass; b.ends = a.ends;
                b.stops.addAll(a.stops);
                b.queue.addAll(a.queue);
                for (Call x : a.calls) { Call y = new Call(); y.rank = x.rank; y.lacks = x.lacks; b.calls.add(y); }
                t.ties.add(b);
            }
            for (Law a : laws) {
                Law b = new Law();
                b.key = a.key; b.side = a.side; b.day = a.day; b.struck = a.struck; b.parts = a.parts; b.tree = a.tree;
                t.laws.add(b);
            }
            t.letters.addAll(letters);
            for (int i = 0; i < 2; i++) { t.known.get(i).addAll(known.get(i)); t.files.get(i).addAll(files.get(i)); }
            t.clauses.addAll(clauses);
            t.falseFrom = falseFrom.clone();
            for (int i = 0; i < 8; i++) t.arrivals[i] = arrivals[i].clone();
            t.let = let.clone();
            return t;
        }

        int day() { return hour / 24; }
        int side(int person) { return cells.get(persons.get(person).home).side; }
        void learn(int side) { known.get(side).addAll(known.get(1 - side)); }

        void home(int person) {
            Person p = persons.get(person);
            for (Tie t : ties) t.queue.remove((Integer) person);
            p.cell = p.home;
            p.street = NONE;
            p.pass = NONE;
        }

        void anHour() {
            List<Letter> left = new ArrayList<>();
            for (Letter l : letters) {
                if (l.due == hour) known.get(l.to).addAll(l.dead); else left.add(l);
            }
            letters = left;
            for (Tie s : ties) {
                if (s.kind != 1 || !openAt(s, hour % 24)) continue;
                for (int n = 0; n < s.c && !s.queue.isEmpty(); n++) over(s.queue.remove(0), s);
            }
            for (Tie t : ties) {
                if (t.kind != 6 || t.state != 1 || t.ends > hour) continue;
                t.state = 2;
                if (!persons.get(t.one).dead) { home(t.one); learn(side(t.one)); }
            }
            for (int i = 0; i < ties.size(); i++) {
                Tie t = ties.get(i);
                if (t.kind != 6 || t.state != 0 || t.to >= day()) continue;
                t.state = 2;
                if (persons.get(t.one).pass == i) home(t.one);
            }
            for (Tie w : ties) {
                if (w.kind == 4) calls(w);
            }
            hour++;
        }

        static boolean openAt(Tie s, int clock) {
            for (int c = s.from, n = 0; n < 24; n++, c = (c + 1) % 24) {
                if (c == clock) return true;
                if (c == s.to) return false;
            }
            return false;
        }

        void over(int person, Tie street) {
            Person p = persons.get(person);
            int own = side(person);
            boolean first = cells.get(street.one).side == 1 - own;
            boolean second = cells.get(street.other).side == 1 - own;
            p.cell = first && !second ? street.one : street.other;
            Tie pass = ties.get(p.pass);
            pass.state = 1;
            pass.ends = hour + pass.c;
            p.street = NONE;
            p.pass = NONE;
            learn(1 - own);
        }

        void calls(Tie wire) {
            List<Call> order = new ArrayList<>(wire.calls);
            order.sort((a, b) -> b.rank - a.rank);
            int left = wire.c;
            for (Call x : order) {
                int given = Math.min(left, x.lacks);
                left -= given;
                x.lacks -= given;
                if (x.lacks == 0) { wire.calls.remove(x); learn(0); learn(1); }
            }
        }

        int waitAll() {
            int n = 0;
            for (Tie t : ties) n += t.queue.size();
            return n;
        }

        int abroad() {
            int n = 0;
            for (int i = 0; i < persons.size(); i++) {
                Person p = persons.get(i);
                if (!p.dead && p.cell != null && cells.get(p.cell).side != side(i)) n++;
            }
            return n;
        }
    }

    State s = new State();
    State image = null;
    int[][] meters = {null, null};
    int[] sorts = {-1, -1};
    List<Integer> numbers = new ArrayList<>();
    List<Integer> tape = new ArrayList<>();

    static boolean in(int v, int a, int b) { return a <= v && v <= b; }
    boolean isCell(int c) { return in(c, 0, s.cells.size() - 1); }
    boolean isPerson(int p) { return in(p, 0, s.persons.size() - 1); }
    boolean isTie(int t) { return in(t, 0, s.ties.size() - 1); }
    boolean isTie(int t, int kind) { return isTie(t) && s.ties.get(t).kind == kind; }
    boolean isLaw(int t) { return in(t, 0, s.laws.size() - 1); }

    public int cell(int side) {
        if (!in(side, 0, 1)) return BAD;
        if (s.cells.size() == 16) return FULL;
        Cell c = new Cell();
        c.side = side;
        s.cells.add(c);
        return s.cells.size() - 1;
    }

    public int water(int cell, int what, int v) {
        if (!isCell(cell) || !in(what, 0, 1) || !in(v, 0, what == 0 ? 999 : 9999)) return BAD;
        Cell c = s.cells.get(cell);
        int was = what == 0 ? c.use : c.source;
        if (what == 0) c.use = v; else c.source = v;
        return was;
    }

    public int person(int home, int age, int papers) {
        if (!isCell(home) || !in(age, 0, 99) || !in(papers, 0, 3)) return BAD;
        if (s.persons.size() == 20) return FULL;
        Person p = new Person();
        p.home = home;
        p.cell = home;
        p.age = age;
        p.papers = papers;
        s.persons.add(p);
        return s.persons.size() - 1;
    }

    public int is(int person, int what) {
        if (!isPerson(person) || !in(what, 0, 7)) return BAD;
        Person p = s.persons.get(person);
        int known0 = s.known.get(0).contains(person) ? 1 : 0;
        int known1 = s.known.get(1).contains(person) ? 1 : 0;
        return new int[] {p.home, p.age, p.papers, p.cell == null ? NONE : p.cell, p.street, p.dead ? 1 : 0, known0, known1}[what];
    }

    public int be(int person, int what, int v) {
        if (!isPerson(person) || !in(what, 1, 2) || !in(v, 0, what == 1 ? 99 : 3)) return BAD;
        Person p = s.persons.get(person);
        int was = what == 1 ? p.age : p.papers;
        if (what == 1) p.age = v; else p.papers = v;
        return was;
    }

    public int die(int person) {
        if (!isPerson(person)) return BAD;
        Person p = s.persons.get(person);
        if (p.dead) return NO;
        int side = p.cell == null ? s.side(person) : s.cells.get(p.cell).side;
        s.home(person);
        p.cell = null;
        p.dead = true;
        s.known.get(side).add(person);
        return 1;
    }

    static boolean fits(int kind, int c) {
        int[] least = {0, 0, 0, 0, 0, 1};
        int[] most = {0, 9, 0, 9999, 60, 9};
        return in(c, least[kind], most[kind]);
    }

    int add(int kind, int one, int other, int c) {
        Tie t = new Tie();
        t.kind = kind;
        t.one = one;
        t.other = other;
        t.c = c;
        if (kind == 1) t.to = 23;
        s.ties.add(t);
        return s.ties.size() - 1;
    }

    public int tie(int kind, int one, int other, int c) {
        if (!in(kind, 0, 5) || one == other || !fits(kind, c)) return BAD;
        if (kind == 5 && (!isPerson(one) || !isPerson(other))) return BAD;
        if (kind != 5 && (!isCell(one) || !isCell(other))) return BAD;
        if (s.ties.size() == 40) return FULL;
        return add(kind, one, other, c);
    }

    public int pass(int person, int other, int stay, int days) {
        if (!isPerson(person) || !isPerson(other) || !in(stay, 1, 99) || s.side(person) == s.side(other)) return BAD;
        for (int first = 0; first <= 416; first++) {
            int last = days - 1000 * first;
            if (!in(last, first, 416)) continue;
            if (s.ties.size() == 40) return FULL;
            int n = add(6, person, other, stay);
            s.ties.get(n).from = first;
            s.ties.get(n).to = last;
            return n;
        }
        return BAD;
    }

    public int parcel(int pass, int weight, int stuff) {
        if (!isTie(pass, 6) || !in(weight, 1, 99) || !in(stuff, 0, 7)) return BAD;
        Tie p = s.ties.get(pass);
        if (p.state != 0) return NO;
        if (s.ties.size() == 40) return FULL;
        int n = add(7, p.one, p.other, weight);
        s.ties.get(n).stuff = stuff;
        s.ties.get(n).ofPass = pass;
        return n;
    }

    public int told(int tie, int what) {
        if (!isTie(tie) || !in(what, 0, 9)) return BAD;
        Tie t = s.ties.get(tie);
        int wait = t.kind == 1 ? t.queue.size() : t.kind == 4 ? t.calls.size() : 0;
        return new int[] {t.kind, t.one, t.other, t.c, t.from, t.to, t.state, t.stuff, t.ofPass, wait}[what];
    }

    public int as(int tie, int kind) {
        if (!isTie(tie) || !in(kind, 0, 7)) return BAD;
        int[][] of = {{0}, {1, 0}, {2, 0}, {3, 0}, {4, 3, 0}, {5, 0}, {6, 5, 0}, {7, 6, 5, 0}};
        for (int k : of[s.ties.get(tie).kind]) if (k == kind) return s.ties.get(tie).c;
        return KIND;
    }

    public int change(int tie, int v) {
        if (!isTie(tie)) return BAD;
        Tie t = s.ties.get(tie);
        if (!List.of(1, 3, 4, 5).contains(t.kind)) return KIND;
        if (!fits(t.kind, v)) return BAD;
        int was = t.c;
        t.c = v;
        return was;
    }

    public int gate(int tie, int from, int to) {
        if (!isTie(tie) || !in(from, 0, 23) || !in(to, 0, 23)) return BAD;
        Tie t = s.ties.get(tie);
        if (t.kind != 1) return KIND;
        t.from = from;
        t.to = to;
        return 1;
    }

    /** The least sums between all, over more and more persons on the way. */
    int kin(int one, int other) {
        int n = s.persons.size();
        int[][] sum = new int[n][n];
        for (int[] row : sum) Arrays.fill(row, 1000);
        for (Tie t : s.ties) {
            if (t.kind != 5) continue;
            sum[t.one][t.other] = Math.min(sum[t.one][t.other], t.c);
            sum[t.other][t.one] = Math.min(sum[t.other][t.one], t.c);
        }
        for (int k = 0; k < n; k++) for (int i = 0; i < n; i++) for (int j = 0; j < n; j++) {
            sum[i][j] = Math.min(sum[i][j], sum[i][k] + sum[k][j]);
        }
        return sum[one][other] > 9 ? 0 : sum[one][other];
    }

    public int kinship(int one, int other) {
        if (!isPerson(one) || !isPerson(other) || one == other) return BAD;
        return kin(one, other);
    }

    public int take(int pass) {
        if (!isTie(pass, 6)) return BAD;
        Tie t = s.ties.get(pass);
        if (t.state != 0) return NO;
        t.state = 3;
        if (s.persons.get(t.one).pass == pass) s.home(t.one);
        return 1;
    }

    public int why(int pass) {
        if (!isTie(pass, 6)) return BAD;
        Tie t = s.ties.get(pass);
        Person p = s.persons.get(t.one);
        if (p.dead || p.street != NONE) return 1;
        if (s.cells.get(p.cell).side != s.side(t.one)) return 1;
        if (t.state != 0) return 2;
        if (s.day() < t.from || s.day() > t.to) return 3;
        if (may(pass, 0) == 0) return 4;
        return may(pass, 1) == 0 ? 5 : 0;
    }

    public int ask(int pass, int street) {
        if (!isTie(pass, 6) || !isTie(street, 1)) return BAD;
        if (why(pass) != 0) return NO;
        Person p = s.persons.get(s.ties.get(pass).one);
        p.cell = null;
        p.street = street;
        p.pass = pass;
        s.ties.get(street).queue.add(s.ties.get(pass).one);
        return s.ties.get(street).queue.size();
    }

    public int letter(int side, int n) {
        if (!in(side, 0, 1) || !in(n, 1, 99)) return BAD;
        if (s.letters.size() == 20) return FULL;
        Letter l = new Letter();
        l.due = s.hour + n;
        l.to = 1 - side;
        l.dead = new TreeSet<>(s.known.get(side));
        s.letters.add(l);
        return s.letters.size();
    }

    int allCalls() {
        int n = 0;
        for (Tie t : s.ties) n += t.calls.size();
        return n;
    }

    public int call(int wire, int rank, int minutes) {
        if (!isTie(wire, 4) || !in(rank, 0, 9) || !in(minutes, 1, 99)) return BAD;
        if (allCalls() == 20) return FULL;
        Call c = new Call();
        c.rank = rank;
        c.lacks = minutes;
        s.ties.get(wire).calls.add(c);
        return s.ties.get(wire).calls.size();
    }

    public int run(int n) {
        if (!in(n, 1, 100)) return BAD;
        if (s.hour + n > 9999) return FULL;
        for (int i = 0; i < n; i++) s.anHour();
        return s.hour;
    }

    public int feed(int a, int b, int c) {
        if (tape.size() + 12 > 96) return FULL;
        for (int v : new int[] {a, b, c}) {
            tape.add(v >>> 24);
            tape.add(v >>> 16 & 255);
            tape.add(v >>> 8 & 255);
            tape.add(v & 255);
        }
        return tape.size();
    }

    public int trim(int n) {
        if (!in(n, 0, tape.size())) return BAD;
        tape = new ArrayList<>(tape.subList(0, n));
        return n;
    }

    static final String[] KEYS = {"cross", "carry", "halt", "house", "pay"};
    static final String[] NAMES = {"apkd", "wxa", "ish", "dfp", "n"};

    static class Fault extends Exception {
        private static final long serialVersionUID = 1;
        final int place;
        Fault(int place) { this.place = place; }
    }

    /** Goes down the grammar, one method a rule. */
    static class Reader {
        final List<String> words = new ArrayList<>();
        final List<Integer> places = new ArrayList<>();
        final List<Boolean> glued = new ArrayList<>();
        int at = 0, brackets = 0, nots = 0, parts = 0, key;

        Reader(List<Integer> tape) {
            StringBuilder b = new StringBuilder();
            for (int v : tape) b.append((char) v);
            java.util.regex.Matcher m = java.util.regex.Pattern.compile("[a-z]+|[0-9]+|[^ ]", java.util.regex.Pattern.DOTALL).matcher(b);
            int end = -1;
            boolean word = false;
            while (m.find()) {
                boolean isWord = m.group().matches("[a-z]+|[0-9]+");
                words.add(m.group());
                places.add(m.start());
                glued.add(word && isWord && m.start() == end);
                end = m.end();
                word = isWord;
            }
            words.add("");
            places.add(tape.size());
            glued.add(false);
        }

        String look() { return words.get(at); }
        Fault fault() { return new Fault(places.get(at)); }
        void step() throws Fault {
            at++;
            if (glued.get(at)) throw fault();
        }

        Node text() throws Fault {
            key = Arrays.asList(KEYS).indexOf(look());
            if (key < 0) throw fault();
            step();
            Node n = or();
            if (!look().isEmpty()) throw fault();
            return n;
        }

        Node or() throws Fault {
            Node n = and();
            while (look().equals("|")) {
                step();
                Node a = n, b = and();
                n = m -> { int x = a.value(m), y = b.value(m); return x != 0 || y != 0 ? 1 : 0; };
            }
            return n;
        }

        Node and() throws Fault {
            Node n = test();
            while (look().equals("&")) {
                step();
                Node a = n, b = test();
                n = m -> { int x = a.value(m), y = b.value(m); return x != 0 && y != 0 ? 1 : 0; };
            }
            return n;
        }

        Node test() throws Fault {
            Node a = sum();
            String op = look();
            if (!List.of("<", "=", ">").contains(op)) return a;
            step();
            Node b = sum();
            return m -> {
                int c = Integer.compare(a.value(m), b.value(m));
                return op.equals("<") && c < 0 || op.equals("=") && c == 0 || op.equals(">") && c > 0 ? 1 : 0;
            };
        }

        Node sum() throws Fault {
            Node n = term();
            while (look().equals("+") || look().equals("-")) {
                boolean plus = look().equals("+");
                step();
                Node a = n, b = term();
                n = m -> (int) (plus ? (long) a.value(m) + b.value(m) : (long) a.value(m) - b.value(m));
            }
            return n;
        }

        Node term() throws Fault {
            Node n = part();
            while (look().equals("*") || look().equals("/")) {
                boolean times = look().equals("*");
                step();
                Node a = n, b = part();
                n = m -> {
                    long x = a.value(m), y = b.value(m);
                    return (int) (times ? x * y : y == 0 ? 0 : x / y);
                };
            }
            return n;
        }

        Node part() throws Fault {
            String w = look();
            if (w.matches("[0-9]{1,4}")) {
                parts++;
                step();
                int v = Integer.parseInt(w);
                return m -> v;
            }
            if (w.length() == 1 && NAMES[key].contains(w)) {
                parts++;
                step();
                return m -> m.get(w.charAt(0));
            }
            if (w.equals("!") && nots < 8) {
                nots++;
                step();
                Node n = part();
                nots--;
                return m -> n.value(m) == 0 ? 1 : 0;
            }
            if (w.equals("(") && brackets < 8) {
                brackets++;
                step();
                Node n = or();
                if (!look().equals(")")) throw fault();
                brackets--;
                step();
                return n;
            }
            throw fault();
        }
    }

    public int text(int side, int day) {
        Reader r = new Reader(tape);
        tape = new ArrayList<>();
        if (!in(side, 0, 1) || !in(day, 0, 416)) return BAD;
        Law l = new Law();
        try {
            l.tree = r.text();
        } catch (Fault f) {
            return -100 - f.place;
        }
        if (s.laws.size() == 12) return FULL;
        l.key = r.key;
        l.side = side;
        l.day = day;
        l.parts = r.parts;
        s.laws.add(l);
        return s.laws.size() - 1;
    }

    public int of(int text, int what) {
        if (!isLaw(text) || !in(what, 0, 4)) return BAD;
        Law l = s.laws.get(text);
        return new int[] {l.key, l.side, l.day, l.struck, l.parts}[what];
    }

    public int strike(int text) {
        if (!isLaw(text)) return BAD;
        Law l = s.laws.get(text);
        if (l.struck != NONE) return NO;
        l.struck = s.day() + 1;
        return 1;
    }

    Law law(int side, int key) {
        int n = counts(side, key);
        return n == NONE ? null : s.laws.get(n);
    }

    public int counts(int side, int key) {
        if (!in(side, 0, 1) || !in(key, 0, 4)) return BAD;
        for (int day = s.day(); day >= 0; day--) {
            for (int i = s.laws.size() - 1; i >= 0; i--) {
                Law l = s.laws.get(i);
                boolean struck = l.struck != NONE && l.struck <= s.day();
                if (l.side == side && l.key == key && l.day == day && !struck) return i;
            }
        }
        return NONE;
    }

    static int value(Law l, int without, Object... names) {
        if (l == null) return without;
        Map<Character, Integer> m = new HashMap<>();
        for (int i = 0; i < names.length; i += 2) m.put((Character) names[i], (Integer) names[i + 1]);
        return l.tree.value(m);
    }

    boolean crosses(Law l, int person, int other) {
        Person p = s.persons.get(person);
        return value(l, 0, 'a', p.age, 'p', p.papers, 'k', kin(person, other), 'd', s.day() % 7) != 0;
    }

    public int may(int pass, int side) {
        if (!isTie(pass, 6) || !in(side, 0, 1)) return BAD;
        Tie t = s.ties.get(pass);
        if (!crosses(law(side, 0), t.one, t.other)) return 0;
        for (Tie q : s.ties) {
            if (q.ofPass != pass) continue;
            if (value(law(side, 1), 0, 'w', q.c, 'x', q.stuff, 'a', s.persons.get(t.one).age) == 0) return 0;
        }
        return 1;
    }

    public int unlike(int one, int other, int what) {
        if (!isLaw(one) || !isLaw(other) || !in(what, 0, 1)) return BAD;
        Law f = s.laws.get(one), g = s.laws.get(other);
        if (f.key != 0 || g.key != 0) return KIND;
        List<Integer> found = new ArrayList<>();
        for (int a = 0; a < 100; a++) for (int p = 0; p < 4; p++) for (int k = 0; k < 10; k++) {
            Map<Character, Integer> m = Map.of('a', a, 'p', p, 'k', k, 'd', s.day() % 7);
            if ((f.tree.value(m) != 0) != (g.tree.value(m) != 0)) found.add(100 * a + 10 * p + k);
        }
        return what == 0 ? found.size() : found.isEmpty() ? NONE : found.get(0);
    }

    int visits(int side, Law first, Law second) {
        int n = 0;
        for (int i = 0; i < s.persons.size(); i++) for (int k = 0; k < s.persons.size(); k++) {
            if (s.side(i) != side || s.side(k) == side || s.persons.get(i).dead || s.persons.get(k).dead) continue;
            if (crosses(first, i, k) && crosses(second, i, k)) n++;
        }
        return n;
    }

    public int visits(int side) { return in(side, 0, 1) ? visits(side, law(0, 0), law(1, 0)) : BAD; }

    public int changed(int text) {
        if (!isLaw(text)) return BAD;
        Law l = s.laws.get(text);
        if (l.key != 0) return KIND;
        Law a = l.side == 0 ? l : law(0, 0), b = l.side == 1 ? l : law(1, 0);
        return visits(0, a, b) + visits(1, a, b) - visits(0) - visits(1);
    }

    public int house(int side, int doors, int floors, int pipes) {
        if (!in(side, 0, 1) || !in(doors, 0, 99) || !in(floors, 0, 99) || !in(pipes, 0, 99)) return BAD;
        int v = value(law(side, 3), 0, 'd', doors / 10 - doors % 10, 'f', floors / 10 - floors % 10, 'p', pipes / 10 - pipes % 10);
        return v > 0 ? 0 : v < 0 ? 1 : side;
    }

    /** By the least cut: a set of cells that have water, and all that would have to be cut around it. */
    int flow(int sides, int without) {
        int least = Integer.MAX_VALUE;
        int n = s.cells.size();
        for (int set = 0; set < 1 << n; set++) {
            int cut = 0;
            for (int i = 0; i < n; i++) {
                Cell c = s.cells.get(i);
                if ((set >> i & 1) == 0) cut += c.source;
                else if ((sides >> c.side & 1) == 1) cut += c.use;
            }
            for (int i = 0; i < s.ties.size(); i++) {
                Tie t = s.ties.get(i);
                if (t.kind == 3 && i != without && (set >> t.one & 1) != (set >> t.other & 1)) cut += t.c;
            }
            least = Math.min(least, cut);
        }
        return least;
    }

    public int flow(int sides) { return in(sides, 1, 3) ? flow(sides, NONE) : BAD; }

    int lack(int side, int without) {
        int uses = 0;
        for (Cell c : s.cells) if (c.side == side) uses += c.use;
        return uses - flow(1 << side, without);
    }

    public int lack(int side) { return in(side, 0, 1) ? lack(side, NONE) : BAD; }

    public int need(int pipe, int side) {
        if (!isTie(pipe) || !in(side, 0, 1)) return BAD;
        return isTie(pipe, 3) ? lack(side, pipe) - lack(side, NONE) : KIND;
    }

    public int stop(int line, int cell, int minutes) {
        if (!isTie(line) || !isCell(cell) || !in(minutes, 0, 59)) return BAD;
        Tie t = s.ties.get(line);
        if (t.kind != 2) return KIND;
        if (t.stops.size() == 8) return FULL;
        Stop p = new Stop();
        p.cell = cell;
        p.minutes = minutes;
        t.stops.add(p);
        return t.stops.size();
    }

    public int train(int line, int minute, int i, int what) {
        if (!isTie(line) || !in(minute, 0, 59) || !in(what, 0, 1)) return BAD;
        Tie t = s.ties.get(line);
        if (t.kind != 2) return KIND;
        if (!in(i, 0, t.stops.size() - 1)) return NONE;
        int start = 60 * s.hour + minute;
        int time = start;
        for (int k = 0; ; k++) {
            Stop p = t.stops.get(k);
            if (k > 0) time += p.minutes;
            int side = s.cells.get(p.cell).side;
            boolean halts = value(law(side, 2), 1, 'i', k, 's', side, 'h', time / 60 % 24) != 0;
            if (k == i) return what == 0 ? time - start : halts ? 1 : 0;
            if (halts && k > 0) time += 2;
        }
    }

    public int file(int side, int name, int age) {
        if (!in(side, 0, 1) || !in(name, 0, 9999) || !in(age, 0, 99)) return BAD;
        List<Dossier> all = s.files.get(side);
        if (all.size() == 10) return FULL;
        Dossier d = new Dossier();
        d.name = String.format("%04d", name);
        d.age = age;
        all.add(d);
        return all.size() - 1;
    }

    public int alike(int i, int k) {
        if (!in(i, 0, s.files.get(0).size() - 1) || !in(k, 0, s.files.get(1).size() - 1)) return BAD;
        Dossier a = s.files.get(0).get(i), b = s.files.get(1).get(k);
        if (a.age > b.age + 1 || b.age > a.age + 1) return 0;
        if (a.name.equals(b.name)) return 2;
        for (int at = 0; at < 4; at++) {
            StringBuilder x = new StringBuilder(a.name);
            x.setCharAt(at, b.name.charAt(at));
            if (x.toString().equals(b.name)) return 1;
            if (at == 3) continue;
            x = new StringBuilder(a.name);
            x.setCharAt(at, a.name.charAt(at + 1));
            x.setCharAt(at + 1, a.name.charAt(at));
            if (x.toString().equals(b.name)) return 1;
        }
        return 0;
    }

    int bestSure, bestMaybe;
    int[] bestPairs;

    /** Goes through all pairings, the first ones by numbers first. */
    void pair(int i, int[] pairs, int taken, int sure, int maybe) {
        if (i == pairs.length) {
            if (bestPairs == null || sure > bestSure || sure == bestSure && maybe > bestMaybe) {
                bestSure = sure;
                bestMaybe = maybe;
                bestPairs = pairs.clone();
            }
            return;
        }
        for (int k = 0; k < s.files.get(1).size(); k++) {
            int like = alike(i, k);
            if (like == 0 || (taken >> k & 1) == 1) continue;
            pairs[i] = k;
            pair(i + 1, pairs, taken | 1 << k, like == 2 ? sure + 1 : sure, like == 1 ? maybe + 1 : maybe);
        }
        pairs[i] = NONE;
        pair(i + 1, pairs, taken, sure, maybe);
    }

    public int pairing(int what) {
        int n = s.files.get(0).size();
        if (!in(what, 0, 1 + n)) return BAD;
        bestPairs = null;
        pair(0, new int[n], 0, 0, 0);
        return what == 0 ? bestSure : what == 1 ? bestMaybe : bestPairs[what - 2];
    }

    public int meter(int side, int sort, int n) {
        if (!in(side, 0, 1) || !in(sort, -1, 1)) return BAD;
        if (sort != -1 && n > 30) return BAD;
        if (sort != -1 && n < 0) return SIZE;
        sorts[side] = sort;
        meters[side] = sort == -1 ? null : new int[n];
        return sort == -1 ? 0 : n;
    }

    int finding(int side, int day) {
        if (!in(side, 0, 1)) return BAD;
        if (meters[side] == null) return NOTHING;
        return in(day, 0, meters[side].length - 1) ? 0 : INDEX;
    }

    public int put(int side, int day, int v) {
        if (finding(side, day) != 0) return finding(side, day);
        if (sorts[side] == 0 && v == NONE) return KIND;
        if (sorts[side] == 1 && v != NONE && !in(v, -100000, 100000)) return BAD;
        meters[side][day] = v;
        return 1;
    }

    Integer reads(int side, int day) {
        if (finding(side, day) != 0) return null;
        int v = meters[side][day];
        if (v != NONE) return v;
        return day == 0 ? null : reads(side, day - 1);
    }

    public int read(int side, int day) {
        if (finding(side, day) != 0) return finding(side, day);
        Integer v = reads(side, day);
        return v == null ? KIND : v;
    }

    public int copy(int from, int day, int to, int at, int many) {
        if (!in(from, 0, 1) || !in(to, 0, 1)) return BAD;
        if (meters[from] == null || meters[to] == null) return NOTHING;
        if (sorts[from] != sorts[to]) return KIND;
        if (many < 0 || day < 0 || at < 0 || (long) day + many > meters[from].length || (long) at + many > meters[to].length) return INDEX;
        int[] were = meters[from].clone();
        for (int i = 0; i < many; i++) meters[to][at + i] = were[day + i];
        return many;
    }

    public int wrong(int side, int day) {
        if (!in(side, 0, 1) || day != NONE && !in(day, 0, 29)) return BAD;
        int was = s.falseFrom[side];
        s.falseFrom[side] = day;
        return was;
    }

    Integer owes(int day) {
        List<Integer> read = new ArrayList<>();
        for (int side = 0; side < 2; side++) {
            boolean isFalse = s.falseFrom[side] != NONE && day >= s.falseFrom[side];
            if (!isFalse && reads(side, day) != null) read.add(reads(side, day));
        }
        if (read.isEmpty()) return null;
        Collections.sort(read);
        long less = read.get(0), more = read.get(read.size() - 1);
        java.math.BigDecimal bound = java.math.BigDecimal.valueOf(Math.abs(less) * s.bound, 2);
        return (int) (java.math.BigDecimal.valueOf(more - less).compareTo(bound) <= 0 ? (less + more) / 2 : less);
    }

    public int owed(int day) {
        if (!in(day, 0, 29)) return BAD;
        return owes(day) == null ? NONE : owes(day);
    }

    public int coin(int side, int day) {
        if (!in(side, 0, 1) || !in(day, 0, 29)) return BAD;
        return owes(day) == null ? NONE : value(law(side, 4), 0, 'n', owes(day));
    }

    public int rule(int what, int v) {
        if (!in(what, 0, 1) || !in(v, 0, what == 0 ? 100 : 999)) return BAD;
        int was = what == 0 ? s.bound : s.debt;
        if (what == 0) s.bound = v; else s.debt = v;
        return was;
    }

    public int feast(int gate, int hour, int v) {
        if (!in(gate, 0, 7) || !in(hour, 0, 12) || !in(v, 0, 99)) return BAD;
        int was = hour == 12 ? s.let[gate] : s.arrivals[gate][hour];
        if (hour == 12) s.let[gate] = v; else s.arrivals[gate][hour] = v;
        return was;
    }

    public int waiting(int set) {
        if (!in(set, 1, 255)) return BAD;
        int sum = 0;
        for (int open = 0; open < 8; open++) {
            if ((set >> open & 1) == 0) continue;
            int wait = 0;
            for (int h = 0; h < 12; h++) {
                wait += s.arrivals[open][h];
                for (int g = (open + 7) % 8; (set >> g & 1) == 0; g = (g + 7) % 8) wait += s.arrivals[g][h];
                wait = Math.max(wait - s.let[open], 0);
                sum += wait;
            }
        }
        return sum;
    }

    public int gates(int m) {
        if (!in(m, 1, 8)) return BAD;
        List<Integer> sets = new ArrayList<>();
        Map<Integer, Integer> wait = new HashMap<>();
        for (int set = 1; set < 256; set++) {
            if (Integer.bitCount(set) <= m) { sets.add(set); wait.put(set, waiting(set)); }
        }
        sets.sort(java.util.Comparator.<Integer>comparingInt(wait::get).thenComparing(Integer::bitCount).thenComparing(x -> x));
        return sets.get(0);
    }

    public int clause(int worth, int other, int visits) {
        if (!in(worth, -99, 99) || !in(other, -99, 99) || !in(visits, 0, 99)) return BAD;
        if (s.clauses.size() == 7) return FULL;
        Clause c = new Clause();
        c.worth = new int[] {worth, other};
        c.visits = visits;
        s.clauses.add(c);
        return s.clauses.size() - 1;
    }

    int brings(List<Integer> order) {
        int n = 0;
        for (int i : order) n += s.clauses.get(i).visits;
        return n;
    }

    /** Adds all orders that are tried, in which they are tried. */
    void orders(List<Integer> so, int n, List<List<Integer>> tried) {
        for (int i = 0; i < s.clauses.size(); i++) {
            if (so.contains(i)) continue;
            List<Integer> next = new ArrayList<>(so);
            next.add(i);
            boolean may = true;
            for (int side = 0; side < 2; side++) {
                int sum = 0;
                for (int k : next) sum += s.clauses.get(k).worth[side];
                may &= sum >= -s.debt;
            }
            if (!may) continue;
            tried.add(next);
            if (brings(next) < n) orders(next, n, tried);
        }
    }

    List<Integer> order;

    int seek(int n, int tries) {
        List<List<Integer>> tried = new ArrayList<>();
        orders(List.of(), n, tried);
        if (tried.size() > tries) return SPENT;
        order = null;
        for (List<Integer> o : tried) if (brings(o) >= n && (order == null || o.size() < order.size())) order = o;
        return order == null ? NO : order.size();
    }

    public int plan(int n, int tries) { return in(n, 1, 999) && in(tries, 1, 20000) ? seek(n, tries) : BAD; }

    public int planned(int n, int i) {
        if (!in(n, 1, 999) || i < 0) return BAD;
        int years = seek(n, 20000);
        return years < 0 ? years : i < years ? order.get(i) : NONE;
    }

    public int tell(int v) {
        if (numbers.size() == 60) return FULL;
        numbers.add(v);
        return numbers.size();
    }

    public int check(int what, int n) {
        List<Integer> given = numbers;
        numbers = new ArrayList<>();
        if (!in(what, 0, 1) || !in(n, 1, what == 0 ? 999 : 24)) return BAD;
        List<Integer> due = new ArrayList<>();
        if (what == 0) {
            int years = seek(n, 20000);
            if (years < 0) return years;
            for (int i = 0; i < years; i++) { due.add(order.get(i)); due.add(brings(order.subList(0, i + 1))); }
        } else {
            if (image == null) return NO;
            State t = image.twin();
            for (int i = 0; i < n; i++) { t.anHour(); due.add(t.waitAll()); due.add(t.abroad()); }
        }
        if (given.equals(due)) return 0;
        int same = 0;
        while (same < given.size() && same < due.size() && given.get(same).equals(due.get(same))) same++;
        return 1 + same;
    }

    public int keep() {
        image = s.twin();
        return s.hour;
    }

    public int back() {
        if (image == null) return NO;
        s = image.twin();
        return s.hour;
    }

    public int count(int what) {
        if (!in(what, 0, 14)) return BAD;
        int dead = 0, open = 0;
        for (Person p : s.persons) if (p.dead) dead++;
        for (Tie t : s.ties) if (t.kind == 6 && t.state == 0) open++;
        return new int[] {s.cells.size(), s.persons.size(), dead, s.waitAll(), s.ties.size(), open, s.laws.size(), s.letters.size(),
            allCalls(), s.clauses.size(), numbers.size(), tape.size(), s.hour, s.files.get(0).size(), s.files.get(1).size()}[what];
    }
}
