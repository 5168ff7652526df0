import java.util.Arrays;

/** A wall through a city, its ties, laws, news, water, trains, files, meters, feasts and clauses. */
public final class CutCity {
    public static final int BAD = -1000000001, NO = -1000000002, FULL = -1000000003, SPENT = -1000000004, NONE = -1000000005, NOTHING = -1000000011, KIND = -1000000012, INDEX = -1000000013, SIZE = -1000000014;

    private static final int CELLS = 16, PERSONS = 20, TIES = 40, TEXTS = 12, LETTERS = 20, CALLS = 20;
    private static final int STOPS = 8, FILES = 10, DAYS = 30, GATES = 8, HOURS = 12, CLAUSES = 7, NUMBERS = 60, TAPE = 96;
    private static final int LAST_HOUR = 9999, LAST_DAY = 416, ALL_TRIES = 20000;

    private static final int PLAIN = 0, STREET = 1, LINE = 2, PIPE = 3, WIRE = 4, KIN = 5, PASS = 6, PARCEL = 7;
    private static final int OPEN = 0, USED = 1, OVER = 2, TAKEN = 3;
    private static final int CROSS = 0, CARRY = 1, HALT = 2, HOUSE = 3, PAY = 4;

    /** A word of a law's code below NAME is a number, below OPERATOR a name's slot, else an act. */
    private static final int NAME = 10000, OPERATOR = 20000;
    private static final int NOT = OPERATOR + 9, BRACKET = OPERATOR + 10;
    private static final String SIGNS = "|&<=>+-*/";
    /** How tight each of the signs binds, and ! behind them. */
    private static final int[] TIGHT = {1, 2, 3, 3, 3, 4, 4, 5, 5, 6};
    private static final int COMPARING = 3;

    private static final int[] ABOVE = {-1, 0, 0, 0, 3, 0, 5, 6};
    private static final int[] FIGURES = {1, 10, 100, 1000};

    /** Lies outside of all ints, so that no sum that is owed can be taken for it. */
    private static final long NOT_OWED = 4000000000L;

    private final City now = new City();
    private final City image = new City();
    private final City ghost = new City();
    private boolean kept = false;
    private final Tape tape = new Tape();
    private final Meters meters = new Meters();
    private final Water pipes = new Water();
    private final int[] numbers = new int[NUMBERS];
    private int numbersWaiting = 0;
    private final int[] rows = new int[NUMBERS];

    public CutCity() {
    }

    private static boolean within(int v, int least, int most) {
        return v >= least && v <= most;
    }

    private static boolean isSide(int side) {
        return side == 0 || side == 1;
    }

    private static void carryOver(int[] from, int[] to) {
        System.arraycopy(from, 0, to, 0, Math.min(from.length, to.length));
    }

    // ---- the city

    public int cell(int side) {
        if (!isSide(side)) return BAD;
        if (now.cells == CELLS) return FULL;
        return now.addCell(side);
    }

    public int water(int cell, int what, int v) {
        if (!now.hasCell(cell) || !within(what, 0, 1)) return BAD;
        if (!within(v, 0, what == 0 ? 999 : 9999)) return BAD;
        return exchange(what == 0 ? now.use : now.source, cell, v);
    }

    private static int exchange(int[] row, int i, int v) {
        int was = row[i];
        row[i] = v;
        return was;
    }

    public int person(int home, int age, int papers) {
        if (!now.hasCell(home) || !within(age, 0, 99) || !within(papers, 0, 3)) return BAD;
        if (now.folk.number == PERSONS) return FULL;
        return now.folk.addPerson(home, age, papers);
    }

    public int is(int person, int what) {
        Persons folk = now.folk;
        if (!folk.has(person)) return BAD;
        switch (what) {
            case 0: return folk.home[person];
            case 1: return folk.age[person];
            case 2: return folk.papers[person];
            case 3: return folk.cell[person];
            case 4: return folk.street[person];
            case 5: return folk.dead >> person & 1;
            case 6: return folk.known[0] >> person & 1;
            case 7: return folk.known[1] >> person & 1;
            default: return BAD;
        }
    }

    public int be(int person, int what, int v) {
        if (!now.folk.has(person) || !within(what, 1, 2)) return BAD;
        if (!within(v, 0, what == 1 ? 99 : 3)) return BAD;
        return exchange(what == 1 ? now.folk.age : now.folk.papers, person, v);
    }

    public int die(int person) {
        if (!now.folk.has(person)) return BAD;
        if (now.folk.isDead(person)) return NO;
        now.loses(person);
        return 1;
    }

    public int tie(int kind, int one, int other, int c) {
        if (!within(kind, PLAIN, KIN) || one == other || !Ties.fits(kind, c)) return BAD;
        boolean endsAre = kind == KIN ? now.folk.has(one) && now.folk.has(other) : now.hasCell(one) && now.hasCell(other);
        if (!endsAre) return BAD;
        if (now.ties.number == TIES) return FULL;
        return now.ties.addTie(kind, one, other, c);
    }

    public int pass(int person, int other, int stay, int days) {
        if (!now.folk.has(person) || !now.folk.has(other)) return BAD;
        if (now.sideOf(person) == now.sideOf(other)) return BAD;
        if (!within(stay, 1, 99) || days < 0) return BAD;
        int first = days / 1000;
        int last = days % 1000;
        if (first > LAST_DAY || last > LAST_DAY || last < first) return BAD;
        if (now.ties.number == TIES) return FULL;
        int pass = now.ties.addTie(PASS, person, other, stay);
        now.ties.from[pass] = first;
        now.ties.to[pass] = last;
        return pass;
    }

    public int parcel(int pass, int weight, int stuff) {
        Ties ties = now.ties;
        if (!ties.isOf(pass, PASS) || !within(weight, 1, 99) || !within(stuff, 0, 7)) return BAD;
        if (ties.state[pass] != OPEN) return NO;
        if (ties.number == TIES) return FULL;
        int parcel = ties.addTie(PARCEL, ties.one[pass], ties.other[pass], weight);
        ties.stuff[parcel] = stuff;
        ties.passOf[parcel] = pass;
        return parcel;
    }

    public int told(int tie, int what) {
        Ties ties = now.ties;
        if (!ties.has(tie)) return BAD;
        switch (what) {
            case 0: return ties.kind[tie];
            case 1: return ties.one[tie];
            case 2: return ties.other[tie];
            case 3: return ties.c[tie];
            case 4: return ties.from[tie];
            case 5: return ties.to[tie];
            case 6: return ties.state[tie];
            case 7: return ties.stuff[tie];
            case 8: return ties.passOf[tie];
            case 9: return now.waitingFor(tie);
            default: return BAD;
        }
    }

    public int as(int tie, int kind) {
        if (!now.ties.has(tie) || !within(kind, PLAIN, PARCEL)) return BAD;
        return Ties.isUnder(now.ties.kind[tie], kind) ? now.ties.c[tie] : KIND;
    }

    public int change(int tie, int v) {
        if (!now.ties.has(tie)) return BAD;
        int kind = now.ties.kind[tie];
        if (kind != STREET && kind != PIPE && kind != WIRE && kind != KIN) return KIND;
        if (!Ties.fits(kind, v)) return BAD;
        return exchange(now.ties.c, tie, v);
    }

    public int gate(int tie, int from, int to) {
        if (!now.ties.has(tie) || !within(from, 0, 23) || !within(to, 0, 23)) return BAD;
        if (now.ties.kind[tie] != STREET) return KIND;
        now.ties.from[tie] = from;
        now.ties.to[tie] = to;
        return 1;
    }

    public int kinship(int one, int other) {
        if (!now.folk.has(one) || !now.folk.has(other) || one == other) return BAD;
        return now.ties.kinOf(one, other);
    }

    public int take(int pass) {
        if (!now.ties.isOf(pass, PASS)) return BAD;
        if (now.ties.state[pass] != OPEN) return NO;
        now.closePass(pass, TAKEN);
        return 1;
    }

    public int why(int pass) {
        return now.ties.isOf(pass, PASS) ? now.whyNot(pass) : BAD;
    }

    public int ask(int pass, int street) {
        if (!now.ties.isOf(pass, PASS) || !now.ties.isOf(street, STREET)) return BAD;
        if (now.whyNot(pass) != 0) return NO;
        now.folk.joinLine(now.ties.one[pass], street, pass);
        return now.folk.linedAt(street);
    }

    public int letter(int side, int n) {
        if (!isSide(side) || !within(n, 1, 99)) return BAD;
        if (now.post.letters == LETTERS) return FULL;
        return now.post.addLetter(now.hour + n, 1 - side, now.folk.known[side]);
    }

    public int call(int wire, int rank, int minutes) {
        if (!now.ties.isOf(wire, WIRE) || !within(rank, 0, 9) || !within(minutes, 1, 99)) return BAD;
        if (now.post.calls == CALLS) return FULL;
        now.post.addCall(wire, rank, minutes);
        return now.post.callsFor(wire);
    }

    public int run(int n) {
        if (!within(n, 1, 100)) return BAD;
        if (now.hour + n > LAST_HOUR) return FULL;
        for (int i = 0; i < n; i++) now.passHour();
        return now.hour;
    }

    // ---- laws

    public int feed(int a, int b, int c) {
        if (tape.size + 12 > TAPE) return FULL;
        tape.add(a);
        tape.add(b);
        tape.add(c);
        return tape.size;
    }

    public int trim(int n) {
        if (!within(n, 0, tape.size)) return BAD;
        tape.size = n;
        return n;
    }

    public int text(int side, int day) {
        int fault = isSide(side) && within(day, 0, LAST_DAY) ? tape.parse() : BAD;
        tape.size = 0;
        if (fault == BAD) return BAD;
        if (fault >= 0) return -100 - fault;
        if (now.laws.number == TEXTS) return FULL;
        return now.laws.addText(tape, side, day);
    }

    public int of(int text, int what) {
        Laws laws = now.laws;
        if (!laws.has(text)) return BAD;
        switch (what) {
            case 0: return laws.key[text];
            case 1: return laws.side[text];
            case 2: return laws.day[text];
            case 3: return laws.struck[text];
            case 4: return laws.parts[text];
            default: return BAD;
        }
    }

    public int strike(int text) {
        if (!now.laws.has(text)) return BAD;
        if (now.laws.struck[text] != NONE) return NO;
        now.laws.struck[text] = now.day() + 1;
        return 1;
    }

    public int counts(int side, int key) {
        if (!isSide(side) || !within(key, CROSS, PAY)) return BAD;
        return now.lawOf(side, key);
    }

    public int may(int pass, int side) {
        if (!now.ties.isOf(pass, PASS) || !isSide(side)) return BAD;
        return now.lets(pass, side) ? 1 : 0;
    }

    public int unlike(int one, int other, int what) {
        Laws laws = now.laws;
        if (!laws.has(one) || !laws.has(other) || !within(what, 0, 1)) return BAD;
        if (laws.key[one] != CROSS || laws.key[other] != CROSS) return KIND;
        return laws.differ(one, other, what, now.day());
    }

    public int visits(int side) {
        if (!isSide(side)) return BAD;
        return now.visitsFrom(side, now.lawOf(0, CROSS), now.lawOf(1, CROSS));
    }

    public int changed(int text) {
        if (!now.laws.has(text)) return BAD;
        if (now.laws.key[text] != CROSS) return KIND;
        int first = now.lawOf(0, CROSS);
        int second = now.lawOf(1, CROSS);
        boolean ofFirst = now.laws.side[text] == 0;
        return now.allVisits(ofFirst ? text : first, ofFirst ? second : text) - now.allVisits(first, second);
    }

    public int house(int side, int doors, int floors, int pipes) {
        if (!isSide(side) || !within(doors, 0, 99) || !within(floors, 0, 99) || !within(pipes, 0, 99)) return BAD;
        int law = now.lawOf(side, HOUSE);
        if (law == NONE) return side;
        now.laws.setNames(doors / 10 - doors % 10, floors / 10 - floors % 10, pipes / 10 - pipes % 10, 0);
        int worth = now.laws.valueOf(law);
        if (worth == 0) return side;
        return worth > 0 ? 0 : 1;
    }

    // ---- water, trains

    public int flow(int sides) {
        return within(sides, 1, 3) ? pipes.greatest(now, sides, NONE) : BAD;
    }

    public int lack(int side) {
        return isSide(side) ? now.usesOf(side) - pipes.greatest(now, 1 << side, NONE) : BAD;
    }

    public int need(int pipe, int side) {
        if (!now.ties.has(pipe) || !isSide(side)) return BAD;
        if (now.ties.kind[pipe] != PIPE) return KIND;
        return pipes.greatest(now, 1 << side, NONE) - pipes.greatest(now, 1 << side, pipe);
    }

    public int stop(int line, int cell, int minutes) {
        if (!now.ties.has(line) || !now.hasCell(cell) || !within(minutes, 0, 59)) return BAD;
        if (now.ties.kind[line] != LINE) return KIND;
        if (now.ties.stops[line] == STOPS) return FULL;
        return now.ties.addStop(line, cell, minutes);
    }

    public int train(int line, int minute, int i, int what) {
        if (!now.ties.has(line) || !within(minute, 0, 59) || !within(what, 0, 1)) return BAD;
        if (now.ties.kind[line] != LINE) return KIND;
        if (!within(i, 0, now.ties.stops[line] - 1)) return NONE;
        return now.ride(line, minute, i, what);
    }

    // ---- files, meters

    public int file(int side, int name, int age) {
        if (!isSide(side) || !within(name, 0, 9999) || !within(age, 0, 99)) return BAD;
        if (now.files.number[side] == FILES) return FULL;
        return now.files.addFile(side, name, age);
    }

    public int alike(int i, int k) {
        return now.files.has(0, i) && now.files.has(1, k) ? now.files.likeness(i, k) : BAD;
    }

    public int pairing(int what) {
        if (!within(what, 0, 1 + now.files.number[0])) return BAD;
        now.files.findPairs();
        return what < 2 ? now.files.paired[2 - what] : now.files.partner[what - 2];
    }

    public int meter(int side, int sort, int n) {
        if (!isSide(side) || !within(sort, -1, 1)) return BAD;
        if (sort >= 0 && n > DAYS) return BAD;
        if (sort >= 0 && n < 0) return SIZE;
        return meters.renew(side, sort, sort < 0 ? 0 : n);
    }

    public int put(int side, int day, int v) {
        if (!isSide(side)) return BAD;
        int finding = meters.finding(side, day);
        if (finding != 0) return finding;
        boolean ofInts = meters.sort[side] == 0;
        if (ofInts && v == NONE) return KIND;
        if (!ofInts && v != NONE && !within(v, -100000, 100000)) return BAD;
        meters.row[side * DAYS + day] = v;
        return 1;
    }

    public int read(int side, int day) {
        if (!isSide(side)) return BAD;
        int finding = meters.finding(side, day);
        if (finding != 0) return finding;
        int told = meters.lastTold(side, day);
        return told < 0 ? KIND : meters.row[side * DAYS + told];
    }

    public int copy(int from, int day, int to, int at, int many) {
        if (!isSide(from) || !isSide(to)) return BAD;
        if (meters.sort[from] < 0 || meters.sort[to] < 0) return NOTHING;
        if (meters.sort[from] != meters.sort[to]) return KIND;
        if (!meters.holds(from, day, many) || !meters.holds(to, at, many)) return INDEX;
        System.arraycopy(meters.row, from * DAYS + day, meters.row, to * DAYS + at, many);
        return many;
    }

    public int wrong(int side, int day) {
        if (!isSide(side) || day != NONE && !within(day, 0, DAYS - 1)) return BAD;
        return exchange(now.falseFrom, side, day);
    }

    public int owed(int day) {
        if (!within(day, 0, DAYS - 1)) return BAD;
        long sum = meters.sumOwed(day, now);
        return sum == NOT_OWED ? NONE : (int) sum;
    }

    public int coin(int side, int day) {
        if (!isSide(side) || !within(day, 0, DAYS - 1)) return BAD;
        long sum = meters.sumOwed(day, now);
        if (sum == NOT_OWED) return NONE;
        int law = now.lawOf(side, PAY);
        if (law == NONE) return 0;
        now.laws.setNames((int) sum, 0, 0, 0);
        return now.laws.valueOf(law);
    }

    public int rule(int what, int v) {
        if (!within(what, 0, 1) || !within(v, 0, what == 0 ? 100 : 999)) return BAD;
        return exchange(now.rules, what, v);
    }

    // ---- feasts, clauses

    public int feast(int gate, int hour, int v) {
        if (!within(gate, 0, GATES - 1) || !within(hour, 0, HOURS) || !within(v, 0, 99)) return BAD;
        return exchange(now.feast.told, gate * (HOURS + 1) + hour, v);
    }

    public int waiting(int set) {
        return within(set, 1, 255) ? now.feast.waitOf(set) : BAD;
    }

    public int gates(int m) {
        return within(m, 1, GATES) ? now.feast.bestSet(m) : BAD;
    }

    public int clause(int worth, int other, int visits) {
        if (!within(worth, -99, 99) || !within(other, -99, 99) || !within(visits, 0, 99)) return BAD;
        if (now.clauses.number == CLAUSES) return FULL;
        return now.clauses.addClause(worth, other, visits);
    }

    public int plan(int n, int tries) {
        if (!within(n, 1, 999) || !within(tries, 1, ALL_TRIES)) return BAD;
        return now.clauses.soonest(n, tries, now.rules[1]);
    }

    public int planned(int n, int i) {
        if (!within(n, 1, 999) || i < 0) return BAD;
        int years = now.clauses.soonest(n, ALL_TRIES, now.rules[1]);
        if (years < 0) return years;
        return i < years ? now.clauses.best[i] : NONE;
    }

    // ---- rows, images

    public int tell(int v) {
        if (numbersWaiting == NUMBERS) return FULL;
        numbers[numbersWaiting++] = v;
        return numbersWaiting;
    }

    public int check(int what, int n) {
        int given = numbersWaiting;
        numbersWaiting = 0;
        if (!within(what, 0, 1) || !within(n, 1, what == 0 ? 999 : 24)) return BAD;
        int due = what == 0 ? orderRows(n) : dayRows(n);
        return due < 0 ? due : firstOff(given, due);
    }

    /** Fills the rows that are due: how many numbers they have, or why there are none. */
    private int orderRows(int n) {
        int years = now.clauses.soonest(n, ALL_TRIES, now.rules[1]);
        int brought = 0;
        for (int i = 0; i < years; i++) {
            int clause = now.clauses.best[i];
            brought += now.clauses.visits[clause];
            rows[2 * i] = clause;
            rows[2 * i + 1] = brought;
        }
        return years < 0 ? years : 2 * years;
    }

    private int dayRows(int n) {
        if (!kept) return NO;
        ghost.become(image);
        for (int i = 0; i < n; i++) {
            ghost.passHour();
            rows[2 * i] = ghost.folk.lined;
            rows[2 * i + 1] = ghost.visitors();
        }
        return 2 * n;
    }

    private int firstOff(int given, int due) {
        for (int i = 0; i < given && i < due; i++) {
            if (numbers[i] != rows[i]) return 1 + i;
        }
        return given == due ? 0 : 1 + Math.min(given, due);
    }

    public int keep() {
        image.become(now);
        kept = true;
        return now.hour;
    }

    public int back() {
        if (!kept) return NO;
        now.become(image);
        return now.hour;
    }

    public int count(int what) {
        switch (what) {
            case 0: return now.cells;
            case 1: return now.folk.number;
            case 2: return Integer.bitCount(now.folk.dead);
            case 3: return now.folk.lined;
            case 4: return now.ties.number;
            case 5: return now.ties.openPasses();
            case 6: return now.laws.number;
            case 7: return now.post.letters;
            case 8: return now.post.calls;
            case 9: return now.clauses.number;
            case 10: return numbersWaiting;
            case 11: return tape.size;
            case 12: return now.hour;
            case 13: return now.files.number[0];
            case 14: return now.files.number[1];
            default: return BAD;
        }
    }

    /** All that an image keeps, in one object, so that an image is one more of these. */
    private static final class City {
        int hour = 0;
        int cells = 0;
        final int[] side = new int[CELLS];
        final int[] use = new int[CELLS];
        final int[] source = new int[CELLS];
        final int[] falseFrom = {NONE, NONE};
        /** The bound, and the debt. */
        final int[] rules = {10, 0};
        final Persons folk = new Persons();
        final Ties ties = new Ties();
        final Post post = new Post();
        final Laws laws = new Laws();
        final Files files = new Files();
        final Feast feast = new Feast();
        final Clauses clauses = new Clauses();

        void become(City from) {
            hour = from.hour;
            cells = from.cells;
            carryOver(from.side, side);
            carryOver(from.use, use);
            carryOver(from.source, source);
            carryOver(from.falseFrom, falseFrom);
            carryOver(from.rules, rules);
            folk.become(from.folk);
            ties.become(from.ties);
            post.become(from.post);
            laws.become(from.laws);
            files.become(from.files);
            feast.become(from.feast);
            clauses.become(from.clauses);
        }

        int day() {
            return hour / 24;
        }

        boolean hasCell(int cell) {
            return cell >= 0 && cell < cells;
        }

        int addCell(int ofSide) {
            side[cells] = ofSide;
            use[cells] = 0;
            source[cells] = 0;
            return cells++;
        }

        int sideOf(int person) {
            return side[folk.home[person]];
        }

        boolean isAbroad(int person) {
            int cell = folk.cell[person];
            return cell != NONE && side[cell] != sideOf(person);
        }

        int visitors() {
            int all = 0;
            for (int i = 0; i < folk.number; i++) {
                if (isAbroad(i)) all++;
            }
            return all;
        }

        int usesOf(int ofSide) {
            int sum = 0;
            for (int i = 0; i < cells; i++) {
                if (side[i] == ofSide) sum += use[i];
            }
            return sum;
        }

        int waitingFor(int tie) {
            if (ties.kind[tie] == STREET) return folk.linedAt(tie);
            return ties.kind[tie] == WIRE ? post.callsFor(tie) : 0;
        }

        void loses(int person) {
            int cell = folk.cell[person];
            folk.bury(person, cell == NONE ? sideOf(person) : side[cell]);
        }

        void closePass(int pass, int state) {
            int person = ties.one[pass];
            ties.state[pass] = state;
            if (folk.with[person] == pass) folk.goHome(person);
        }

        // an hour

        void passHour() {
            post.deliver(hour, folk);
            openStreets();
            endStays();
            endPasses();
            serveWires();
            hour++;
        }

        private void openStreets() {
            for (int i = 0; i < ties.number; i++) {
                if (ties.kind[i] == STREET && ties.isOpenAt(i, hour % 24)) letBy(i);
            }
        }

        private void letBy(int street) {
            for (int i = 0; i < ties.c[street]; i++) {
                int person = folk.firstAt(street);
                if (person == NONE) return;
                letOver(person, street);
            }
        }

        private void letOver(int person, int street) {
            int own = sideOf(person);
            int pass = folk.with[person];
            folk.leaveLine(person);
            folk.cell[person] = farEnd(street, own);
            folk.learn(1 - own);
            if (!ties.has(pass)) return;
            ties.state[pass] = USED;
            ties.ending[pass] = hour + ties.c[pass];
        }

        private int farEnd(int street, int own) {
            int one = ties.one[street];
            int other = ties.other[street];
            return side[one] != own && side[other] == own ? one : other;
        }

        private void endStays() {
            for (int i = 0; i < ties.number; i++) {
                if (ties.kind[i] == PASS && ties.state[i] == USED && ties.ending[i] <= hour) endStay(i);
            }
        }

        private void endStay(int pass) {
            int person = ties.one[pass];
            ties.state[pass] = OVER;
            if (folk.isDead(person)) return;
            folk.goHome(person);
            folk.learn(sideOf(person));
        }

        private void endPasses() {
            for (int i = 0; i < ties.number; i++) {
                if (ties.kind[i] == PASS && ties.state[i] == OPEN && ties.to[i] < day()) closePass(i, OVER);
            }
        }

        private void serveWires() {
            for (int i = 0; i < ties.number; i++) {
                if (ties.kind[i] == WIRE) post.serve(i, ties.c[i], folk);
            }
        }

        // laws

        int lawOf(int ofSide, int key) {
            return laws.counting(ofSide, key, day());
        }

        int whyNot(int pass) {
            int person = ties.one[pass];
            if (folk.cell[person] == NONE || isAbroad(person)) return 1;
            if (ties.state[pass] != OPEN) return 2;
            if (!within(day(), ties.from[pass], ties.to[pass])) return 3;
            if (!lets(pass, 0)) return 4;
            return lets(pass, 1) ? 0 : 5;
        }

        boolean lets(int pass, int bySide) {
            int person = ties.one[pass];
            int law = lawOf(bySide, CROSS);
            if (law == NONE) return false;
            laws.setNames(folk.age[person], folk.papers[person], ties.kinOf(person, ties.other[pass]), day() % 7);
            return laws.valueOf(law) != 0 && letsParcels(pass, lawOf(bySide, CARRY));
        }

        private boolean letsParcels(int pass, int law) {
            for (int i = 0; i < ties.number; i++) {
                if (ties.kind[i] != PARCEL || ties.passOf[i] != pass) continue;
                if (law == NONE) return false;
                laws.setNames(ties.c[i], ties.stuff[i], folk.age[ties.one[pass]], 0);
                if (laws.valueOf(law) == 0) return false;
            }
            return true;
        }

        int allVisits(int first, int second) {
            return visitsFrom(0, first, second) + visitsFrom(1, first, second);
        }

        int visitsFrom(int ofSide, int first, int second) {
            if (first == NONE || second == NONE) return 0;
            int all = 0;
            for (int i = 0; i < folk.number; i++) {
                if (!folk.isDead(i) && sideOf(i) == ofSide) all += visitsOf(i, first, second);
            }
            return all;
        }

        private int visitsOf(int person, int first, int second) {
            int all = 0;
            ties.findKin(person);
            for (int i = 0; i < folk.number; i++) {
                if (folk.isDead(i) || sideOf(i) == sideOf(person)) continue;
                laws.setNames(folk.age[person], folk.papers[person], ties.near[i], day() % 7);
                if (laws.valueOf(first) != 0 && laws.valueOf(second) != 0) all++;
            }
            return all;
        }

        // trains

        int ride(int line, int minute, int last, int what) {
            int gone = 0;
            for (int i = 0; i < last; i++) {
                boolean halts = haltsAt(line, i, minute + gone);
                if (i > 0 && halts) gone += 2;
                gone += ties.stopMinutes[line * STOPS + i + 1];
            }
            if (what == 0) return gone;
            return haltsAt(line, last, minute + gone) ? 1 : 0;
        }

        private boolean haltsAt(int line, int i, int minutes) {
            int ofSide = side[ties.stopCell[line * STOPS + i]];
            int law = lawOf(ofSide, HALT);
            if (law == NONE) return true;
            laws.setNames(i, ofSide, (hour + minutes / 60) % 24, 0);
            return laws.valueOf(law) != 0;
        }
    }

    /** Who lives where, is where, waits in which order, and what is known of the dead. */
    private static final class Persons {
        int number = 0;
        final int[] home = new int[PERSONS];
        final int[] age = new int[PERSONS];
        final int[] papers = new int[PERSONS];
        final int[] cell = new int[PERSONS];
        final int[] street = new int[PERSONS];
        /** The pass with which one waits. */
        final int[] with = new int[PERSONS];
        /** All who wait, at whatever street, those who came first first. */
        final int[] line = new int[PERSONS];
        int lined = 0;
        /** Bits by persons. */
        int dead = 0;
        final int[] known = new int[2];

        void become(Persons from) {
            number = from.number;
            carryOver(from.home, home);
            carryOver(from.age, age);
            carryOver(from.papers, papers);
            carryOver(from.cell, cell);
            carryOver(from.street, street);
            carryOver(from.with, with);
            carryOver(from.line, line);
            lined = from.lined;
            dead = from.dead;
            carryOver(from.known, known);
        }

        boolean has(int person) {
            return person >= 0 && person < number;
        }

        boolean isDead(int person) {
            return (dead >> person & 1) == 1;
        }

        int addPerson(int atHome, int ofAge, int ofPapers) {
            home[number] = atHome;
            age[number] = ofAge;
            papers[number] = ofPapers;
            cell[number] = atHome;
            street[number] = NONE;
            with[number] = NONE;
            return number++;
        }

        void joinLine(int person, int atStreet, int pass) {
            if (lined >= PERSONS) return;
            cell[person] = NONE;
            street[person] = atStreet;
            with[person] = pass;
            line[lined++] = person;
        }

        void leaveLine(int person) {
            int left = 0;
            for (int i = 0; i < lined; i++) {
                if (line[i] != person) line[left++] = line[i];
            }
            lined = left;
            street[person] = NONE;
            with[person] = NONE;
        }

        int firstAt(int atStreet) {
            for (int i = 0; i < lined; i++) {
                if (street[line[i]] == atStreet) return line[i];
            }
            return NONE;
        }

        int linedAt(int atStreet) {
            int all = 0;
            for (int i = 0; i < lined; i++) {
                if (street[line[i]] == atStreet) all++;
            }
            return all;
        }

        void goHome(int person) {
            leaveLine(person);
            cell[person] = home[person];
        }

        void bury(int person, int side) {
            leaveLine(person);
            cell[person] = NONE;
            dead |= 1 << person;
            known[side] |= 1 << person;
        }

        void learn(int side) {
            known[side] |= known[1 - side];
        }
    }

    /** Ties of all kinds; what a kind does not have is 0 (a parcel's pass: NONE). */
    private static final class Ties {
        int number = 0;
        final int[] kind = new int[TIES];
        final int[] one = new int[TIES];
        final int[] other = new int[TIES];
        final int[] c = new int[TIES];
        final int[] from = new int[TIES];
        final int[] to = new int[TIES];
        final int[] state = new int[TIES];
        final int[] ending = new int[TIES];
        final int[] stuff = new int[TIES];
        final int[] passOf = new int[TIES];
        final int[] stops = new int[TIES];
        final int[] stopCell = new int[TIES * STOPS];
        final int[] stopMinutes = new int[TIES * STOPS];
        /** The kinships of the one person for whom they were found last. */
        final int[] near = new int[PERSONS];

        void become(Ties source) {
            number = source.number;
            carryOver(source.kind, kind);
            carryOver(source.one, one);
            carryOver(source.other, other);
            carryOver(source.c, c);
            carryOver(source.from, from);
            carryOver(source.to, to);
            carryOver(source.state, state);
            carryOver(source.ending, ending);
            carryOver(source.stuff, stuff);
            carryOver(source.passOf, passOf);
            carryOver(source.stops, stops);
            carryOver(source.stopCell, stopCell);
            carryOver(source.stopMinutes, stopMinutes);
        }

        boolean has(int tie) {
            return tie >= 0 && tie < number;
        }

        boolean isOf(int tie, int ofKind) {
            return has(tie) && kind[tie] == ofKind;
        }

        static boolean fits(int kind, int c) {
            switch (kind) {
                case STREET: return within(c, 0, 9);
                case PIPE: return within(c, 0, 9999);
                case WIRE: return within(c, 0, 60);
                case KIN: return within(c, 1, 9);
                default: return c == 0;
            }
        }

        static boolean isUnder(int kind, int above) {
            int at = kind;
            for (int i = 0; i < ABOVE.length && at >= 0; i++) {
                if (at == above) return true;
                at = ABOVE[at];
            }
            return false;
        }

        int addTie(int ofKind, int first, int second, int ofC) {
            kind[number] = ofKind;
            one[number] = first;
            other[number] = second;
            c[number] = ofC;
            from[number] = 0;
            to[number] = ofKind == STREET ? 23 : 0;
            state[number] = 0;
            ending[number] = 0;
            stuff[number] = 0;
            passOf[number] = NONE;
            stops[number] = 0;
            return number++;
        }

        int addStop(int line, int cell, int minutes) {
            int place = line * STOPS + stops[line];
            stopCell[place] = cell;
            stopMinutes[place] = minutes;
            return ++stops[line];
        }

        boolean isOpenAt(int street, int clock) {
            int first = from[street];
            int last = to[street];
            return first <= last ? clock >= first && clock <= last : clock >= first || clock <= last;
        }

        int openPasses() {
            int all = 0;
            for (int i = 0; i < number; i++) {
                if (kind[i] == PASS && state[i] == OPEN) all++;
            }
            return all;
        }

        int kinOf(int person, int toWhom) {
            findKin(person);
            return near[toWhom];
        }

        /** Way sums above 9 are cut to 10, which no further tie can make count again. */
        void findKin(int person) {
            Arrays.fill(near, 10);
            near[person] = 0;
            boolean found = true;
            for (int i = 0; i < PERSONS && found; i++) found = comeNearer();
            for (int i = 0; i < PERSONS; i++) {
                if (near[i] == 10) near[i] = 0;
            }
        }

        private boolean comeNearer() {
            boolean found = false;
            for (int i = 0; i < number; i++) {
                if (kind[i] != KIN) continue;
                int a = one[i];
                int b = other[i];
                if (near[a] + c[i] < near[b]) {
                    near[b] = near[a] + c[i];
                    found = true;
                } else if (near[b] + c[i] < near[a]) {
                    near[a] = near[b] + c[i];
                    found = true;
                }
            }
            return found;
        }
    }

    /** Letters on their way and calls that wait, both in the order in which they were told. */
    private static final class Post {
        int letters = 0;
        final int[] due = new int[LETTERS];
        final int[] toSide = new int[LETTERS];
        final int[] news = new int[LETTERS];
        int calls = 0;
        final int[] wire = new int[CALLS];
        final int[] rank = new int[CALLS];
        final int[] lacks = new int[CALLS];

        void become(Post from) {
            letters = from.letters;
            carryOver(from.due, due);
            carryOver(from.toSide, toSide);
            carryOver(from.news, news);
            calls = from.calls;
            carryOver(from.wire, wire);
            carryOver(from.rank, rank);
            carryOver(from.lacks, lacks);
        }

        int addLetter(int hour, int side, int dead) {
            due[letters] = hour;
            toSide[letters] = side;
            news[letters] = dead;
            return ++letters;
        }

        void deliver(int hour, Persons folk) {
            int left = 0;
            for (int i = 0; i < letters; i++) {
                if (due[i] <= hour) {
                    folk.known[toSide[i]] |= news[i];
                } else {
                    due[left] = due[i];
                    toSide[left] = toSide[i];
                    news[left] = news[i];
                    left++;
                }
            }
            letters = left;
        }

        void addCall(int onWire, int ofRank, int minutes) {
            wire[calls] = onWire;
            rank[calls] = ofRank;
            lacks[calls] = minutes;
            calls++;
        }

        int callsFor(int onWire) {
            int all = 0;
            for (int i = 0; i < calls; i++) {
                if (wire[i] == onWire) all++;
            }
            return all;
        }

        void serve(int onWire, int minutes, Persons folk) {
            int left = minutes;
            for (int i = 0; i < CALLS && left > 0; i++) {
                int call = foremost(onWire);
                if (call == NONE) return;
                int given = Math.min(left, lacks[call]);
                left -= given;
                lacks[call] -= given;
                if (lacks[call] == 0) {
                    dropCall(call);
                    folk.learn(0);
                    folk.learn(1);
                }
            }
        }

        private int foremost(int onWire) {
            int best = NONE;
            for (int i = 0; i < calls; i++) {
                if (wire[i] == onWire && (best == NONE || rank[i] > rank[best])) best = i;
            }
            return best;
        }

        private void dropCall(int call) {
            for (int i = call; i < calls - 1; i++) {
                wire[i] = wire[i + 1];
                rank[i] = rank[i + 1];
                lacks[i] = lacks[i + 1];
            }
            calls--;
        }
    }

    /** Texts, each with its code: acts stand behind what they act upon. */
    private static final class Laws {
        int number = 0;
        final int[] key = new int[TEXTS];
        final int[] side = new int[TEXTS];
        final int[] day = new int[TEXTS];
        final int[] struck = new int[TEXTS];
        final int[] parts = new int[TEXTS];
        final int[] length = new int[TEXTS];
        final int[] code = new int[TEXTS * TAPE];
        /** What the names of a key mean now, in the order of the tape's names. */
        final int[] names = new int[4];
        final int[] stack = new int[TAPE];

        void become(Laws from) {
            number = from.number;
            carryOver(from.key, key);
            carryOver(from.side, side);
            carryOver(from.day, day);
            carryOver(from.struck, struck);
            carryOver(from.parts, parts);
            carryOver(from.length, length);
            carryOver(from.code, code);
        }

        boolean has(int text) {
            return text >= 0 && text < number;
        }

        int addText(Tape tape, int ofSide, int fromDay) {
            key[number] = tape.key;
            side[number] = ofSide;
            day[number] = fromDay;
            struck[number] = NONE;
            parts[number] = tape.parts;
            length[number] = tape.length;
            System.arraycopy(tape.code, 0, code, number * TAPE, tape.length);
            return number++;
        }

        int counting(int ofSide, int ofKey, int today) {
            int best = NONE;
            for (int i = 0; i < number; i++) {
                if (side[i] != ofSide || key[i] != ofKey || !holdsOn(i, today)) continue;
                if (best == NONE || day[i] >= day[best]) best = i;
            }
            return best;
        }

        private boolean holdsOn(int text, int today) {
            return day[text] <= today && (struck[text] == NONE || today < struck[text]);
        }

        void setNames(int first, int second, int third, int fourth) {
            names[0] = first;
            names[1] = second;
            names[2] = third;
            names[3] = fourth;
        }

        int valueOf(int text) {
            int top = 0;
            int from = text * TAPE;
            for (int i = from; i < from + length[text]; i++) {
                int word = code[i];
                if (word < OPERATOR) {
                    if (top < TAPE) stack[top++] = word < NAME ? word : names[word - NAME];
                } else if (word == NOT) {
                    if (top > 0) stack[top - 1] = truth(stack[top - 1] == 0);
                } else if (top > 1) {
                    top--;
                    stack[top - 1] = worth(word - OPERATOR, stack[top - 1], stack[top]);
                }
            }
            return stack[0];
        }

        private static int truth(boolean is) {
            return is ? 1 : 0;
        }

        private static int worth(int sign, int a, int b) {
            switch (sign) {
                case 0: return truth(a != 0 || b != 0);
                case 1: return truth(a != 0 && b != 0);
                case 2: return truth(a < b);
                case 3: return truth(a == b);
                case 4: return truth(a > b);
                case 5: return a + b;
                case 6: return a - b;
                case 7: return a * b;
                default: return b == 0 ? 0 : a / b;
            }
        }

        private boolean mentions(int text, int slot) {
            for (int i = 0; i < length[text]; i++) {
                if (code[text * TAPE + i] == NAME + slot) return true;
            }
            return false;
        }

        /** What neither text names need not be gone through: all of its numbers answer as 0 does. */
        int differ(int one, int other, int what, int today) {
            int ages = mentions(one, 0) || mentions(other, 0) ? 100 : 1;
            int papers = mentions(one, 1) || mentions(other, 1) ? 4 : 1;
            int kins = mentions(one, 2) || mentions(other, 2) ? 10 : 1;
            int all = 0;
            for (int i = 0; i < ages * papers * kins; i++) {
                int kin = i % kins;
                int paper = i / kins % papers;
                int age = i / kins / papers;
                setNames(age, paper, kin, today % 7);
                if (valueOf(one) == 0 == (valueOf(other) == 0)) continue;
                if (what == 1) return 100 * age + 10 * paper + kin;
                all++;
            }
            return what == 1 ? NONE : all * (100 / ages) * (4 / papers) * (10 / kins);
        }
    }

    /** The tape, and the reading of a text from it. */
    private static final class Tape {
        private static final int END = 0, SIGN = 1, LETTERS_WORD = 2, DIGITS_WORD = 3, GLUED = 4;
        private static final int DEEPEST = 8;

        int size = 0;
        final int[] bytes = new int[TAPE];
        int key = 0;
        int parts = 0;
        int length = 0;
        final int[] code = new int[TAPE];
        /** The word or sign that is looked at. */
        private int start = 0;
        private int end = 0;
        private int sort = END;
        /** Acts and brackets that still wait for what stands behind them. */
        private final int[] held = new int[TAPE];
        private int holds = 0;
        private int brackets = 0;
        private int nots = 0;
        private boolean wantsPart = true;

        void add(int four) {
            for (int shift = 24; shift >= 0; shift -= 8) {
                if (size < TAPE) bytes[size++] = four >> shift & 255;
            }
        }

        /** Reads the tape as a text: NONE, or the place of the fault. */
        int parse() {
            end = 0;
            sort = END;
            parts = 0;
            length = 0;
            holds = 0;
            brackets = 0;
            nots = 0;
            wantsPart = true;
            advance();
            key = keyHere();
            if (key == NONE) return start;
            for (int i = 0; i <= TAPE; i++) {
                advance();
                if (sort == END && !wantsPart && brackets == 0) break;
                if (!(wantsPart ? takePart() : takeSign())) return start;
            }
            release(0);
            return NONE;
        }

        private void advance() {
            boolean behindWord = sort == LETTERS_WORD || sort == DIGITS_WORD;
            int behind = end;
            start = end;
            while (start < size && bytes[start] == ' ') start++;
            end = start;
            sort = END;
            if (start >= size) return;
            sort = sortOf(bytes[start]);
            end++;
            if (sort == SIGN) return;
            while (end < size && sortOf(bytes[end]) == sort) end++;
            if (behindWord && start == behind) sort = GLUED;
        }

        private static int sortOf(int sign) {
            if (sign >= 'a' && sign <= 'z') return LETTERS_WORD;
            return sign >= '0' && sign <= '9' ? DIGITS_WORD : SIGN;
        }

        private int keyHere() {
            for (int i = CROSS; i <= PAY; i++) {
                if (sort == LETTERS_WORD && isHere(keyWord(i))) return i;
            }
            return NONE;
        }

        private boolean isHere(String word) {
            if (word.length() != end - start) return false;
            for (int i = 0; i < word.length(); i++) {
                if (word.charAt(i) != bytes[start + i]) return false;
            }
            return true;
        }

        private static String keyWord(int key) {
            switch (key) {
                case CROSS: return "cross";
                case CARRY: return "carry";
                case HALT: return "halt";
                case HOUSE: return "house";
                default: return "pay";
            }
        }

        private static String namesOf(int key) {
            switch (key) {
                case CROSS: return "apkd";
                case CARRY: return "wxa";
                case HALT: return "ish";
                case HOUSE: return "dfp";
                default: return "n";
            }
        }

        private boolean takePart() {
            if (sort == DIGITS_WORD) return end - start <= 4 && addPart(numberHere());
            if (sort == LETTERS_WORD) {
                int slot = end - start == 1 ? namesOf(key).indexOf((char) bytes[start]) : -1;
                return slot >= 0 && addPart(NAME + slot);
            }
            if (sort != SIGN) return false;
            if (bytes[start] == '!' && nots < DEEPEST) {
                nots++;
                return hold(NOT);
            }
            if (bytes[start] == '(' && brackets < DEEPEST) {
                brackets++;
                return hold(BRACKET);
            }
            return false;
        }

        private int numberHere() {
            int number = 0;
            for (int i = start; i < end; i++) number = 10 * number + bytes[i] - '0';
            return number;
        }

        private boolean addPart(int word) {
            parts++;
            wantsPart = false;
            emit(word);
            releaseNots();
            return true;
        }

        private boolean takeSign() {
            if (sort != SIGN) return false;
            if (bytes[start] == ')') return closeBracket();
            int sign = SIGNS.indexOf((char) bytes[start]);
            if (sign < 0 || !release(TIGHT[sign])) return false;
            wantsPart = true;
            return hold(OPERATOR + sign);
        }

        private boolean closeBracket() {
            if (brackets == 0) return false;
            release(0);
            brackets--;
            if (holds > 0) holds--;
            releaseNots();
            return true;
        }

        private void emit(int word) {
            if (length < TAPE) code[length++] = word;
        }

        private boolean hold(int word) {
            if (holds < TAPE) held[holds++] = word;
            return true;
        }

        /** A part has ended, and with it all nots right ahead of it. */
        private void releaseNots() {
            while (holds > 0 && held[holds - 1] == NOT) {
                emit(NOT);
                holds--;
                nots--;
            }
        }

        /** Acts that bind as tight at least come to the code; false: it would be a second comparison of one test. */
        private boolean release(int tight) {
            while (holds > 0 && held[holds - 1] != BRACKET) {
                int own = TIGHT[held[holds - 1] - OPERATOR];
                if (own < tight) return true;
                if (own == COMPARING && tight == COMPARING) return false;
                emit(held[holds - 1]);
                holds--;
            }
            return true;
        }
    }

    /** The greatest flow, from all sources to the uses of some sides. */
    private static final class Water {
        private static final int NODES = CELLS + 2, SPRING = CELLS, DRAIN = CELLS + 1;

        /** What may still go from one node to another. */
        private final int[] room = new int[NODES * NODES];
        private final int[] ahead = new int[NODES];
        private final int[] line = new int[NODES];

        int greatest(City city, int sides, int without) {
            lay(city, sides, without);
            int sum = 0;
            for (int i = 0; i < CELLS * 1000; i++) {
                int more = reachDrain() ? push() : 0;
                if (more == 0) return sum;
                sum += more;
            }
            return sum;
        }

        private void lay(City city, int sides, int without) {
            Arrays.fill(room, 0);
            for (int i = 0; i < city.cells; i++) {
                room[SPRING * NODES + i] = city.source[i];
                if ((sides >> city.side[i] & 1) == 1) room[i * NODES + DRAIN] = city.use[i];
            }
            Ties ties = city.ties;
            for (int i = 0; i < ties.number; i++) {
                if (ties.kind[i] != PIPE || i == without) continue;
                room[ties.one[i] * NODES + ties.other[i]] += ties.c[i];
                room[ties.other[i] * NODES + ties.one[i]] += ties.c[i];
            }
        }

        private boolean reachDrain() {
            Arrays.fill(ahead, NONE);
            ahead[SPRING] = SPRING;
            line[0] = SPRING;
            int reached = 1;
            for (int i = 0; i < reached && i < NODES; i++) {
                int at = line[i];
                for (int next = 0; next < NODES; next++) {
                    if (ahead[next] != NONE || room[at * NODES + next] == 0) continue;
                    ahead[next] = at;
                    line[reached++] = next;
                }
            }
            return ahead[DRAIN] != NONE;
        }

        private int push() {
            int most = CELLS * 1000;
            int at = DRAIN;
            for (int i = 0; i < NODES && at != SPRING; i++) {
                most = Math.min(most, room[ahead[at] * NODES + at]);
                at = ahead[at];
            }
            at = DRAIN;
            for (int i = 0; i < NODES && at != SPRING; i++) {
                room[ahead[at] * NODES + at] -= most;
                room[at * NODES + ahead[at]] += most;
                at = ahead[at];
            }
            return most;
        }
    }

    /** Files of both sides, and their pairing. */
    private static final class Files {
        /** More than all pairs that may be together, so that one sure pair outweighs them. */
        private static final int SURE = 100;

        final int[] number = new int[2];
        final int[] name = new int[2 * FILES];
        final int[] age = new int[2 * FILES];
        /** How many pairs there are by how alike they are, and whom each file of side 0 has. */
        final int[] paired = new int[3];
        final int[] partner = new int[FILES];
        private boolean found = false;
        /** The best worth of files from one on, by that one and the set of side 1 that is taken. */
        private int[] best = new int[1];

        void become(Files from) {
            carryOver(from.number, number);
            carryOver(from.name, name);
            carryOver(from.age, age);
            found = false;
        }

        boolean has(int side, int file) {
            return file >= 0 && file < number[side];
        }

        int addFile(int side, int ofName, int ofAge) {
            int place = side * FILES + number[side];
            name[place] = ofName;
            age[place] = ofAge;
            found = false;
            return number[side]++;
        }

        int likeness(int i, int k) {
            if (Math.abs(age[i] - age[FILES + k]) > 1) return 0;
            int one = name[i];
            int other = name[FILES + k];
            if (one == other) return 2;
            int unlike = 0;
            int high = 0;
            for (int at = 0; at < FIGURES.length; at++) {
                if (figure(one, at) == figure(other, at)) continue;
                unlike++;
                high = at;
            }
            if (unlike == 1) return 1;
            if (unlike > 2 || high == 0) return 0;
            return figure(one, high) == figure(other, high - 1) && figure(one, high - 1) == figure(other, high) ? 1 : 0;
        }

        private static int figure(int number, int at) {
            return number / FIGURES[at] % 10;
        }

        void findPairs() {
            if (found) return;
            weigh();
            Arrays.fill(paired, 0);
            int taken = 0;
            for (int i = 0; i < number[0]; i++) {
                int k = leastPartner(i, taken);
                partner[i] = k;
                if (k == NONE) continue;
                paired[likeness(i, k)]++;
                taken |= 1 << k;
            }
            found = true;
        }

        private void weigh() {
            int sets = 1 << number[1];
            int needed = (number[0] + 1) * sets;
            if (best.length < needed) best = new int[needed];
            Arrays.fill(best, number[0] * sets, needed, 0);
            for (int i = number[0] - 1; i >= 0; i--) {
                for (int taken = 0; taken < sets; taken++) best[i * sets + taken] = best[(i + 1) * sets + taken];
                for (int k = 0; k < number[1]; k++) weighPair(i, k, sets);
            }
        }

        private void weighPair(int i, int k, int sets) {
            int worth = worthOf(likeness(i, k));
            if (worth == 0) return;
            int bit = 1 << k;
            for (int taken = 0; taken < sets; taken++) {
                if ((taken & bit) != 0) continue;
                int sum = worth + best[(i + 1) * sets + (taken | bit)];
                if (sum > best[i * sets + taken]) best[i * sets + taken] = sum;
            }
        }

        private static int worthOf(int likeness) {
            return likeness == 2 ? SURE : likeness;
        }

        private int leastPartner(int i, int taken) {
            int sets = 1 << number[1];
            for (int k = 0; k < number[1]; k++) {
                int worth = worthOf(likeness(i, k));
                if (worth == 0 || (taken >> k & 1) == 1) continue;
                if (worth + best[(i + 1) * sets + (taken | 1 << k)] == best[i * sets + taken]) return k;
            }
            return NONE;
        }
    }

    /** Two rows of days; quarters are kept as ints, which hold them exactly, and NONE as no number. */
    private static final class Meters {
        /** -1: the meter is missing. */
        final int[] sort = {-1, -1};
        final int[] days = new int[2];
        final int[] row = new int[2 * DAYS];

        int renew(int side, int ofSort, int n) {
            sort[side] = ofSort;
            days[side] = n;
            Arrays.fill(row, side * DAYS, side * DAYS + DAYS, 0);
            return n;
        }

        int finding(int side, int day) {
            if (sort[side] < 0) return NOTHING;
            return day < 0 || day >= days[side] ? INDEX : 0;
        }

        boolean holds(int side, int day, int many) {
            return many >= 0 && day >= 0 && many <= days[side] && day <= days[side] - many;
        }

        /** The last day up to this one with a number; -1: there is none. */
        int lastTold(int side, int day) {
            int at = day;
            while (at >= 0 && row[side * DAYS + at] == NONE) at--;
            return at;
        }

        private boolean canCount(int side, int day, City city) {
            int falseFrom = city.falseFrom[side];
            if (falseFrom != NONE && day >= falseFrom) return false;
            return finding(side, day) == 0 && lastTold(side, day) >= 0;
        }

        long sumOwed(int day, City city) {
            boolean first = canCount(0, day, city);
            boolean second = canCount(1, day, city);
            if (first && second) return agreed(row[lastTold(0, day)], row[DAYS + lastTold(1, day)], city.rules[0]);
            if (first) return row[lastTold(0, day)];
            return second ? row[DAYS + lastTold(1, day)] : NOT_OWED;
        }

        private static long agreed(long one, long other, int bound) {
            long less = Math.min(one, other);
            long more = Math.max(one, other);
            return (more - less) * 100 <= bound * Math.abs(less) ? (less + more) / 2 : less;
        }
    }

    /** Arrivals by gates and hours, and behind the last hour of a gate what it lets by. */
    private static final class Feast {
        final int[] told = new int[GATES * (HOURS + 1)];
        private final int[] goesTo = new int[GATES];
        private final int[] crowd = new int[GATES];

        void become(Feast from) {
            carryOver(from.told, told);
        }

        int waitOf(int set) {
            send(set);
            Arrays.fill(crowd, 0);
            int sum = 0;
            for (int hour = 0; hour < HOURS; hour++) {
                for (int i = 0; i < GATES; i++) crowd[goesTo[i]] += told[i * (HOURS + 1) + hour];
                for (int i = 0; i < GATES; i++) {
                    crowd[i] = Math.max(0, crowd[i] - told[i * (HOURS + 1) + HOURS]);
                    sum += crowd[i];
                }
            }
            return sum;
        }

        /** Twice round backwards, so that gates behind the last open one find the first. */
        private void send(int set) {
            int next = 0;
            for (int i = 2 * GATES - 1; i >= 0; i--) {
                int gate = i % GATES;
                if ((set >> gate & 1) == 1) next = gate;
                goesTo[gate] = next;
            }
        }

        int bestSet(int most) {
            int best = 0;
            int least = 0;
            for (int set = 1; set < 1 << GATES; set++) {
                if (Integer.bitCount(set) > most) continue;
                int wait = waitOf(set);
                boolean better = wait < least || wait == least && Integer.bitCount(set) < Integer.bitCount(best);
                if (best == 0 || better) {
                    best = set;
                    least = wait;
                }
            }
            return best;
        }
    }

    /** Clauses, and the search for the order in which they bring enough visits soonest. */
    private static final class Clauses {
        int number = 0;
        final int[] worth = new int[CLAUSES];
        final int[] other = new int[CLAUSES];
        final int[] visits = new int[CLAUSES];
        /** The order that was found last. */
        final int[] best = new int[CLAUSES];
        private int bestYears = 0;
        private final int[] order = new int[CLAUSES];
        private int wanted = 0;
        private int floor = 0;
        private int triesLeft = 0;

        void become(Clauses from) {
            number = from.number;
            carryOver(from.worth, worth);
            carryOver(from.other, other);
            carryOver(from.visits, visits);
        }

        int addClause(int ofWorth, int ofOther, int ofVisits) {
            worth[number] = ofWorth;
            other[number] = ofOther;
            visits[number] = ofVisits;
            return number++;
        }

        /** The year of the order, which stands in best then; NO, or SPENT. */
        int soonest(int n, int tries, int debt) {
            wanted = n;
            floor = -debt;
            triesLeft = tries;
            bestYears = 0;
            seek(0, 0, 0, 0, 0);
            if (triesLeft < 0) return SPENT;
            return bestYears == 0 ? NO : bestYears;
        }

        /** Goes through all orders that begin with the clauses that are agreed so far. */
        private void seek(int years, int agreed, int sum, int otherSum, int brought) {
            if (years >= number) return;
            for (int i = 0; i < number && triesLeft >= 0; i++) {
                boolean isNew = (agreed >> i & 1) == 0;
                if (isNew && sum + worth[i] >= floor && otherSum + other[i] >= floor) agree(i, years, agreed, sum, otherSum, brought);
            }
        }

        private void agree(int clause, int years, int agreed, int sum, int otherSum, int brought) {
            triesLeft--;
            order[years] = clause;
            int visitsThen = brought + visits[clause];
            if (visitsThen >= wanted) {
                settle(years + 1);
            } else {
                seek(years + 1, agreed | 1 << clause, sum + worth[clause], otherSum + other[clause], visitsThen);
            }
        }

        private void settle(int years) {
            if (bestYears != 0 && bestYears <= years) return;
            bestYears = years;
            carryOver(order, best);
        }
    }
}
