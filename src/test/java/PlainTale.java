import java.util.ArrayList;
import java.util.HashMap;
import java.util.List;
import java.util.Map;

/**
 * The same tale told a second time, as slowly and plainly as the document's words: plans are found among all rows of
 * deeds, laws are judged on the list of all events, nothing is left out. Tests compare BentTale with it.
 */
final class PlainTale implements Tale {
    static final int NONE = -1;
    static final int HIDDEN = 20;
    static final int DEAD = 7;

    interface Wish {
        boolean holds(Mind m);
    }

    static final class Mind {
        int self;
        int[] persons = new int[4];
        int[] things = new int[5];

        Mind copy() {
            Mind m = new Mind();
            m.self = self;
            m.persons = persons.clone();
            m.things = things.clone();
            return m;
        }

        String text() {
            return self + java.util.Arrays.toString(persons) + java.util.Arrays.toString(things);
        }
    }

    static final class Event {
        int turn;
        int who;
        int kind;
        int x;
        int y;
        boolean unseen;
    }

    static final class State {
        int[] room = new int[4];
        int[] place = {NONE, NONE, NONE, NONE, NONE};
        int[] set = new int[5];
        int[][] ofThing = new int[4][5];
        int[][] ofPerson = new int[4][4];
        List<Event> events = new ArrayList<>();
        int turn;
        boolean acted;
        int settles;
        int shifts;
        int pushing;

        State() {
            for (int p = 0; p < 4; p++) {
                java.util.Arrays.fill(ofThing[p], NONE);
                java.util.Arrays.fill(ofPerson[p], NONE);
            }
        }

        State copy() {
            State s = new State();
            s.room = room.clone();
            s.place = place.clone();
            s.set = set.clone();
            for (int p = 0; p < 4; p++) {
                s.ofThing[p] = ofThing[p].clone();
                s.ofPerson[p] = ofPerson[p].clone();
            }
            s.events = new ArrayList<>(events);
            s.turn = turn;
            s.acted = acted;
            s.settles = settles;
            s.shifts = shifts;
            s.pushing = pushing;
            return s;
        }
    }

    static final class Done {
        int kind;
        int x;
        int y;
        int seen;
        int wish = NONE;

        boolean sameDeed(Done other) {
            return other != null && kind == other.kind && x == other.x && y == other.y;
        }
    }

    final boolean[][] doors = new boolean[7][7];
    final int[] prices = {0, 1, 1, 1, 1, 1, 0};
    final List<Boolean> weapons = new ArrayList<>();
    final List<List<Wish>> wishes = new ArrayList<>();
    final List<List<Integer>> weights = new ArrayList<>();
    final List<List<String[]>> laws = new ArrayList<>();
    final List<Done[]> log = new ArrayList<>();
    final List<int[]> acts = new ArrayList<>();
    final Map<String, int[]> plansFound = new HashMap<>();
    final Map<String, int[]> answersFound = new HashMap<>();
    String tape = "";
    State now = new State();
    State first;

    PlainTale() {
        for (int p = 0; p < 4; p++) {
            wishes.add(new ArrayList<>());
            weights.add(new ArrayList<>());
        }
    }

    boolean begun() {
        return first != null;
    }

    static boolean in(int n, int from, int to) {
        return n >= from && n <= to;
    }

    // ---- what is told ahead

    @Override
    public boolean door(int a, int b) {
        if (begun() || !in(a, 0, 6) || !in(b, 0, 6) || a == b || doors[a][b]) {
            return false;
        }
        doors[a][b] = true;
        doors[b][a] = true;
        return true;
    }

    @Override
    public boolean person(int p, int room) {
        if (begun() || !in(p, 0, 3) || !in(room, 0, 6)) {
            return false;
        }
        now.room[p] = room;
        return true;
    }

    @Override
    public int thing(int place, boolean weapon) {
        if (begun() || !in(place, 0, 6) && !in(place, 10, 13) || weapons.size() == 5) {
            return NONE;
        }
        now.place[weapons.size()] = place;
        weapons.add(weapon);
        return weapons.size() - 1;
    }

    @Override
    public int hidden(int set, boolean weapon) {
        if (begun() || !in(set, 0, 127) || Integer.bitCount(set) < 2 || weapons.size() == 5) {
            return NONE;
        }
        now.place[weapons.size()] = HIDDEN;
        now.set[weapons.size()] = set;
        weapons.add(weapon);
        return weapons.size() - 1;
    }

    @Override
    public boolean believe(int p, boolean person, int i, int place) {
        if (begun() || !in(p, 1, 3)) {
            return false;
        }
        if (person) {
            if (!in(i, 0, 3) || i == p || !in(place, NONE, 6)) {
                return false;
            }
            now.ofPerson[p][i] = place;
            return true;
        }
        if (!in(i, 0, weapons.size() - 1) || !in(place, NONE, 6) && !in(place, 10, 13) || place == 10 + p) {
            return false;
        }
        now.ofThing[p][i] = place;
        return true;
    }

    @Override
    public boolean price(int kind, int n) {
        if (begun() || !in(kind, 1, 5) || !in(n, 1, 9)) {
            return false;
        }
        prices[kind] = n;
        return true;
    }

    @Override
    public int feed(int a, int b, int c, int d, int e) {
        if (tape.length() > 380) {
            return NONE;
        }
        StringBuilder more = new StringBuilder(tape);
        for (int word : new int[] {a, b, c, d, e}) {
            for (int i = 3; i >= 0; i--) {
                more.append((char) (word >> 8 * i & 255));
            }
        }
        tape = more.toString();
        return tape.length();
    }

    // ---- texts; a fault is thrown as its answer

    static final class Fault extends RuntimeException {
        private static final long serialVersionUID = 1;
        final int answer;

        Fault(int number, int place) {
            answer = -1000 * number - place;
        }
    }

    private String text;
    private int at;

    private char next() {
        return at < text.length() ? text.charAt(at) : (char) 0xffff;
    }

    private int digitTo(int most) {
        if (!in(next(), '0', '9')) {
            throw new Fault(1, at);
        }
        if (next() - '0' > most) {
            throw new Fault(3, at);
        }
        return text.charAt(at++) - '0';
    }

    private Wish readC(int open) {
        List<Wish> parts = new ArrayList<>();
        do {
            List<Wish> pieces = new ArrayList<>();
            do {
                pieces.add(readPiece(open));
            } while (next() == '&' && at++ >= 0);
            parts.add(m -> pieces.stream().allMatch(w -> w.holds(m)));
        } while (next() == '|' && at++ >= 0);
        return m -> parts.stream().anyMatch(w -> w.holds(m));
    }

    private Wish readPiece(int open) {
        char c = next();
        if ((c == '!' || c == '(') && open == 6) {
            throw new Fault(5, at);
        }
        at++;
        if (c == '!') {
            Wish inner = readPiece(open + 1);
            return m -> !inner.holds(m);
        }
        if (c == '(') {
            Wish inner = readC(open + 1);
            if (next() != ')') {
                throw new Fault(1, at);
            }
            at++;
            return inner;
        }
        if (c == 'h') {
            int x = digitTo(4);
            return m -> m.things[x] == 10 + m.self;
        }
        if (c == 'i') {
            int r = digitTo(6);
            return m -> m.persons[m.self] == r;
        }
        if (c == 'd') {
            int p = digitTo(3);
            return m -> m.persons[p] == DEAD;
        }
        if (c == 'l') {
            int x = digitTo(4);
            int r = digitTo(6);
            return m -> m.things[x] == r;
        }
        if (c == 'o') {
            int p = digitTo(3);
            int x = digitTo(4);
            return m -> m.things[x] == 10 + p;
        }
        throw new Fault(1, at - 1);
    }

    @Override
    public int wish(int p, int weight, int n) {
        if (begun() || !in(p, 1, 3) || !in(weight, 1, 9) || !in(n, 1, 40) || wishes.get(p).size() == 3
            || n > tape.length()) {
            return NONE;
        }
        text = tape.substring(0, n);
        tape = "";
        at = 0;
        try {
            Wish w = readC(0);
            if (at < n) {
                throw new Fault(1, at);
            }
            wishes.get(p).add(w);
            weights.get(p).add(weight);
            return wishes.get(p).size() - 1;
        } catch (Fault f) {
            return f.answer;
        }
    }

    private String readEvent() {
        int from = at;
        if ("gtdvhl".indexOf(next()) < 0) {
            throw new Fault(1, at);
        }
        at++;
        for (int i = 0; i < 3; i++) {
            if (next() == '.') {
                at++;
            } else {
                digitTo(6);
            }
        }
        if (next() == 'u') {
            at++;
        }
        return text.substring(from, at);
    }

    private void readComma() {
        if (next() != ',') {
            throw new Fault(1, at);
        }
        at++;
    }

    private String readNumber() {
        int from = at;
        digitTo(9);
        if (in(next(), '0', '9')) {
            at++;
        }
        if (in(next(), '0', '9')) {
            throw new Fault(2, at);
        }
        return text.substring(from, at);
    }

    private String[] readClause(int before) {
        char letter = next();
        if ("nare".indexOf(letter) < 0) {
            throw new Fault(1, at);
        }
        if (before == 4) {
            throw new Fault(4, at);
        }
        at++;
        String e = readEvent();
        String f = "";
        String n = "";
        if (letter == 'a' || letter == 'r') {
            readComma();
            f = readEvent();
        }
        if (letter == 'r' || letter == 'e') {
            readComma();
            n = readNumber();
        }
        return new String[] {"" + letter, e, f, n};
    }

    @Override
    public int law(int n) {
        if (begun() || !in(n, 1, 60) || laws.size() == 6 || n > tape.length()) {
            return NONE;
        }
        text = tape.substring(0, n);
        tape = "";
        at = 0;
        try {
            List<String[]> clauses = new ArrayList<>();
            clauses.add(readClause(0));
            while (at < n) {
                if (next() != ';') {
                    throw new Fault(1, at);
                }
                at++;
                clauses.add(readClause(clauses.size()));
            }
            laws.add(clauses);
            return laws.size() - 1;
        } catch (Fault f) {
            return f.answer;
        }
    }

    @Override
    public boolean begin() {
        if (begun()) {
            return false;
        }
        lookAll(now);
        first = now.copy();
        return true;
    }

    // ---- looking

    private void lookAll(State s) {
        for (int p = 0; p < 4; p++) {
            for (int x = 0; x < weapons.size(); x++) {
                if (s.room[p] != DEAD && s.place[x] == HIDDEN && (s.set[x] & 1 << s.room[p]) != 0) {
                    s.set[x] -= 1 << s.room[p];
                    if (Integer.bitCount(s.set[x]) == 1) {
                        s.place[x] = Integer.numberOfTrailingZeros(s.set[x]);
                    }
                }
            }
        }
        for (int p = 1; p < 4; p++) {
            if (s.room[p] != DEAD) {
                lookOne(s, p);
            }
        }
    }

    private boolean isAt(State s, int place, int room) {
        return place == room || in(place, 10, 13) && s.room[place - 10] == room;
    }

    private void lookOne(State s, int p) {
        int here = s.room[p];
        for (int q = 0; q < 4; q++) {
            if (s.room[q] == here) {
                s.ofPerson[p][q] = here;
            } else if (s.ofPerson[p][q] == here) {
                s.ofPerson[p][q] = NONE;
            }
        }
        for (int x = 0; x < weapons.size(); x++) {
            if (isAt(s, s.place[x], here)) {
                s.ofThing[p][x] = s.place[x];
            } else if (isAt(s, s.ofThing[p][x], here)) {
                s.ofThing[p][x] = NONE;
            }
        }
    }

    // ---- deeds

    private List<int[]> deedsOf(State s, int p) {
        List<int[]> can = new ArrayList<>();
        can.add(new int[] {0, NONE, NONE});
        for (int kind = 1; kind <= 6; kind++) {
            for (int x = NONE; x <= 6; x++) {
                for (int y = NONE; y <= 3; y++) {
                    if (can(s, p, kind, x, y)) {
                        can.add(new int[] {kind, x, y});
                    }
                }
            }
        }
        return can;
    }

    /** The events that would come if the tale began now, hidden things lay where sought, and the stranger waited. */
    List<Event> forecast(int turns) {
        State s = now.copy();
        for (int p = 1; p < 4; p++) {
            for (int x = 0; x < weapons.size(); x++) {
                boolean sought = s.place[x] == HIDDEN && in(s.ofThing[p][x], 0, 6);
                s.place[x] = sought ? s.ofThing[p][x] : s.place[x];
            }
        }
        lookAll(s);
        for (int t = 0; t < turns; t++) {
            play(s, new int[] {0, NONE, NONE}, 0);
        }
        return s.events;
    }

    List<int[]> deedsNow() {
        return deedsOf(now, 0);
    }

    boolean canActNow(int sort, int i, int room) {
        return canAct(now, sort, i, room);
    }

    private boolean can(State s, int p, int kind, int x, int y) {
        if (kind == 0) {
            return x == NONE && y == NONE;
        }
        int here = s.room[p];
        if (here == DEAD) {
            return false;
        }
        boolean toY = y != p && in(y, 0, 3) && s.room[y] == here;
        boolean isThing = in(x, 0, weapons.size() - 1);
        switch (kind) {
            case 1:
                return in(x, 0, 6) && doors[here][x] && y == NONE;
            case 2:
                return isThing && s.place[x] == here && y == NONE;
            case 3:
                return isThing && s.place[x] == 10 + p && y == NONE;
            case 4:
                return isThing && s.place[x] == 10 + p && toY;
            case 5:
                boolean armed = false;
                for (int w = 0; w < weapons.size(); w++) {
                    armed |= weapons.get(w) && s.place[w] == 10 + p;
                }
                return armed && in(x, 0, 3) && x != p && s.room[x] == here && y == NONE;
            case 6:
                return p == 0 && isThing && toY;
            default:
                return false;
        }
    }

    private Done perform(State s, int p, int kind, int x, int y) {
        Done done = new Done();
        done.kind = kind;
        done.x = x;
        done.y = y;
        if (kind == 0) {
            return done;
        }
        int from = s.room[p];
        if (kind == 1) {
            s.room[p] = x;
        } else if (kind == 2) {
            s.place[x] = 10 + p;
        } else if (kind == 3) {
            s.place[x] = from;
        } else if (kind == 4) {
            s.place[x] = 10 + y;
        } else if (kind == 5) {
            s.room[x] = DEAD;
            for (int t = 0; t < weapons.size(); t++) {
                s.place[t] = s.place[t] == 10 + x ? from : s.place[t];
            }
            for (int q = 1; q < 4; q++) {
                if (s.room[q] == from) {
                    s.ofPerson[q][x] = DEAD;
                }
            }
        } else if (kind == 6) {
            s.ofThing[y][x] = s.place[x] == HIDDEN ? NONE : s.place[x];
        }
        for (int q = 0; q < 4; q++) {
            if (q != p && s.room[q] != DEAD && (s.room[q] == from || kind == 1 && s.room[q] == x)) {
                done.seen |= 1 << q;
            }
        }
        Event e = new Event();
        e.turn = s.turn;
        e.who = p;
        e.kind = kind;
        e.x = x;
        e.y = y;
        e.unseen = done.seen == 0;
        s.events.add(e);
        lookAll(s);
        return done;
    }

    // ---- plans

    private Mind mindOf(State s, int p) {
        Mind m = new Mind();
        m.self = p;
        m.persons = s.ofPerson[p].clone();
        m.things = s.ofThing[p].clone();
        m.persons[p] = s.room[p];
        for (int x = 0; x < 5; x++) {
            if (s.place[x] == 10 + p) {
                m.things[x] = 10 + p;
            } else if (m.things[x] == 10 + p) {
                m.things[x] = NONE;
            }
        }
        return m;
    }

    private Mind behind(Mind m, int kind, int x, int y) {
        int here = m.persons[m.self];
        boolean toY = y != m.self && in(y, 0, 3) && m.persons[y] == here;
        Mind n = m.copy();
        switch (kind) {
            case 1:
                if (!in(x, 0, 6) || !doors[here][x] || y != NONE) {
                    return null;
                }
                n.persons[m.self] = x;
                return n;
            case 2:
                if (!in(x, 0, 4) || m.things[x] != here || y != NONE) {
                    return null;
                }
                n.things[x] = 10 + m.self;
                return n;
            case 3:
                if (!in(x, 0, 4) || m.things[x] != 10 + m.self || y != NONE) {
                    return null;
                }
                n.things[x] = here;
                return n;
            case 4:
                if (!in(x, 0, 4) || m.things[x] != 10 + m.self || !toY) {
                    return null;
                }
                n.things[x] = 10 + y;
                return n;
            default:
                boolean armed = false;
                for (int w = 0; w < weapons.size(); w++) {
                    armed |= weapons.get(w) && m.things[w] == 10 + m.self;
                }
                if (!armed || !in(x, 0, 3) || x == m.self || m.persons[x] != here || y != NONE) {
                    return null;
                }
                n.persons[x] = DEAD;
                for (int t = 0; t < 5; t++) {
                    n.things[t] = n.things[t] == 10 + x ? here : n.things[t];
                }
                return n;
        }
    }

    /** All deeds of THE PLAN in threes, behind its price; null if there is none. */
    private int[] planFor(Mind m, int k) {
        String key = k + m.text();
        if (!plansFound.containsKey(key)) {
            int[][] best = new int[1][];
            seek(m, wishes.get(m.self).get(k), new ArrayList<>(), 0, best);
            plansFound.put(key, best[0]);
        }
        return plansFound.get(key);
    }

    private void seek(Mind m, Wish w, List<Integer> row, int price, int[][] best) {
        for (int kind = 1; kind <= 5 && row.size() < 12; kind++) {
            for (int x = NONE; x <= 6; x++) {
                for (int y = NONE; y <= 3; y++) {
                    Mind after = behind(m, kind, x, y);
                    if (after == null) {
                        continue;
                    }
                    row.add(kind);
                    row.add(x);
                    row.add(y);
                    if (w.holds(after)) {
                        offer(row, price + prices[kind], best);
                    } else {
                        seek(after, w, row, price + prices[kind], best);
                    }
                    row.subList(row.size() - 3, row.size()).clear();
                }
            }
        }
    }

    private static void offer(List<Integer> row, int price, int[][] best) {
        int[] offered = new int[row.size() + 1];
        offered[0] = price;
        for (int i = 0; i < row.size(); i++) {
            offered[i + 1] = row.get(i);
        }
        int[] old = best[0];
        boolean better = old == null || price < old[0] || price == old[0] && offered.length < old.length;
        if (!better && price == old[0] && offered.length == old.length) {
            better = java.util.Arrays.compare(offered, old) < 0;
        }
        if (better) {
            best[0] = offered;
        }
    }

    private int wantedBy(State s, int p) {
        Mind m = mindOf(s, p);
        for (int weight = 9; weight >= 1; weight--) {
            for (int k = 0; k < wishes.get(p).size(); k++) {
                boolean open = weights.get(p).get(k) == weight && !wishes.get(p).get(k).holds(m);
                if (open && planFor(m, k) != null) {
                    return k;
                }
            }
        }
        return NONE;
    }

    // ---- turns and acts

    private Done[] play(State s, int[] deed, int idle) {
        Done[] did = new Done[4];
        s.turn++;
        s.acted = false;
        if (s.room[0] != DEAD) {
            did[0] = perform(s, 0, deed[0], deed[1], deed[2]);
        }
        for (int p = 1; p < 4; p++) {
            if (s.room[p] == DEAD) {
                continue;
            }
            int k = p == idle ? NONE : wantedBy(s, p);
            if (k == NONE) {
                did[p] = perform(s, p, 0, NONE, NONE);
            } else {
                int[] plan = planFor(mindOf(s, p), k);
                did[p] = perform(s, p, plan[1], plan[2], plan[3]);
                did[p].wish = k;
            }
        }
        return did;
    }

    private boolean canAct(State s, int sort, int i, int room) {
        if (s.turn == 0 || s.acted || !in(room, 0, 6)) {
            return false;
        }
        if (sort == 1) {
            boolean can = in(i, 0, weapons.size() - 1) && s.place[i] == HIDDEN && (s.set[i] & 1 << room) != 0;
            for (int p = 0; p < 4; p++) {
                can &= s.room[p] != room;
            }
            return can;
        }
        return in(i, 1, 3) && s.room[i] != DEAD && doors[s.room[i]][room] && s.room[0] != room
            && s.room[0] != s.room[i];
    }

    private int priceOf(State s, int sort) {
        return sort == 0 ? 0 : sort == 1 ? 2 * (s.settles + 1) : 3 * (s.shifts + 1);
    }

    private void act(State s, int sort, int i, int room) {
        s.pushing += priceOf(s, sort);
        if (sort == 1) {
            s.place[i] = room;
            s.settles++;
        } else {
            s.room[i] = room;
            s.shifts++;
        }
        s.acted = true;
        lookAll(s);
    }

    // ---- laws

    private static boolean like(Event e, String pattern) {
        return " gtdvhl".indexOf(pattern.charAt(0)) == e.kind && fits(e.who, pattern.charAt(1))
            && fits(e.x, pattern.charAt(2)) && fits(e.y, pattern.charAt(3)) && (pattern.length() == 4 || e.unseen);
    }

    private static boolean fits(int n, char sign) {
        return sign == '.' || n == sign - '0';
    }

    /** In which turn the clause was broken, else 0 if it is kept and -1 if it is owed. */
    private static int judge(State s, String[] clause) {
        char letter = clause[0].charAt(0);
        int late = 0;
        boolean owed = letter == 'e';
        for (int i = 0; i < s.events.size(); i++) {
            Event e = s.events.get(i);
            if (letter == 'n' && like(e, clause[1])) {
                return e.turn;
            }
            if (letter == 'a' && like(e, clause[2])) {
                boolean unlocked = false;
                for (int j = 0; j < i; j++) {
                    unlocked |= like(s.events.get(j), clause[1]);
                }
                if (!unlocked) {
                    return e.turn;
                }
            }
            if (letter == 'e' && like(e, clause[1]) && e.turn <= Integer.parseInt(clause[3])) {
                owed = false;
            }
            if (letter == 'r' && like(e, clause[1])) {
                int last = e.turn + Integer.parseInt(clause[3]);
                boolean came = false;
                for (int j = i + 1; j < s.events.size(); j++) {
                    came |= s.events.get(j).turn <= last && like(s.events.get(j), clause[2]);
                }
                if (!came && s.turn >= last) {
                    late = late == 0 ? last : Math.min(late, last);
                }
                owed |= !came;
            }
        }
        if (letter == 'e' && owed && s.turn >= Math.max(1, Integer.parseInt(clause[3]))) {
            return Math.max(1, Integer.parseInt(clause[3]));
        }
        return late > 0 ? late : owed ? -1 : 0;
    }

    private int brokenTurn(State s, int i) {
        int turn = NONE;
        for (String[] clause : laws.get(i)) {
            int judged = judge(s, clause);
            if (judged > 0 && (turn == NONE || judged < turn)) {
                turn = judged;
            }
        }
        return turn;
    }

    private boolean anyBroken(State s) {
        for (int i = 0; i < laws.size(); i++) {
            if (brokenTurn(s, i) != NONE) {
                return true;
            }
        }
        return false;
    }

    @Override
    public int keeps(int i) {
        if (!in(i, 0, laws.size() - 1)) {
            return NONE;
        }
        boolean owed = false;
        for (String[] clause : laws.get(i)) {
            owed |= judge(now, clause) < 0;
        }
        return brokenTurn(now, i) != NONE ? 2 : owed ? 1 : 0;
    }

    @Override
    public int broken(int i) {
        return in(i, 0, laws.size() - 1) ? brokenTurn(now, i) : NONE;
    }

    // ---- looking ahead

    private boolean staysKept(State s, int turns) {
        for (int[] deed : deedsOf(s, 0)) {
            State after = s.copy();
            play(after, deed, 0);
            if (anyBroken(after) || answerOf(after, turns - 1) == null) {
                return false;
            }
        }
        return true;
    }

    /** THE ANSWER: sort, whom or what, room, price; null if there is none. */
    private int[] answerOf(State s, int turns) {
        if (anyBroken(s)) {
            return null;
        }
        if (turns == 0 || staysKept(s, turns)) {
            return new int[] {0, NONE, NONE, 0};
        }
        int[] best = null;
        for (int sort = 1; sort <= 2; sort++) {
            for (int i = 0; i < 5; i++) {
                for (int room = 0; room < 7; room++) {
                    boolean cheaper = best == null || priceOf(s, sort) < best[3];
                    if (!cheaper || !canAct(s, sort, i, room)) {
                        continue;
                    }
                    State after = s.copy();
                    act(after, sort, i, room);
                    if (staysKept(after, turns)) {
                        best = new int[] {sort, i, room, priceOf(s, sort)};
                    }
                }
            }
        }
        return best;
    }

    private int[] answerNow(int turns) {
        String key = turns + " " + now.turn + " " + now.acted;
        if (!answersFound.containsKey(key)) {
            answersFound.put(key, answerOf(now, turns));
        }
        return answersFound.get(key);
    }

    @Override
    public int kept(int turns) {
        return !begun() || !in(turns, 0, 2) ? NONE : answerNow(turns) != null ? 1 : 0;
    }

    @Override
    public int loses() {
        return !begun() ? NONE : kept(0) == 0 ? 0 : kept(1) == 0 ? 1 : kept(2) == 0 ? 2 : 3;
    }

    @Override
    public int answer(int turns, int what) {
        if (!begun() || !in(turns, 1, 2) || !in(what, 0, 3)) {
            return NONE;
        }
        return answerNow(turns) == null ? -2 : answerNow(turns)[what];
    }

    // ---- calls while the tale goes

    @Override
    public int believes(int p, boolean person, int i) {
        if (!in(p, 1, 3) || !in(i, 0, person ? 3 : weapons.size() - 1)) {
            return NONE;
        }
        if (person) {
            return i == p ? now.room[p] : now.ofPerson[p][i];
        }
        return now.place[i] == 10 + p ? 10 + p : now.ofThing[p][i];
    }

    private boolean alive(int p) {
        return begun() && in(p, 1, 3) && now.room[p] != DEAD;
    }

    @Override
    public int holds(int p, int k) {
        if (!alive(p) || !in(k, 0, wishes.get(p).size() - 1)) {
            return NONE;
        }
        return wishes.get(p).get(k).holds(mindOf(now, p)) ? 1 : 0;
    }

    @Override
    public int plan(int p, int k, int what) {
        if (holds(p, k) != 0) {
            return NONE;
        }
        int[] plan = planFor(mindOf(now, p), k);
        if (plan == null) {
            return -2;
        }
        if (what == NONE) {
            return plan[0];
        }
        if (what == 0) {
            return plan.length / 3;
        }
        return what < 0 || what >= plan.length || plan[what] == NONE ? -3 : plan[what];
    }

    @Override
    public int wanted(int p) {
        if (!alive(p)) {
            return NONE;
        }
        int k = wantedBy(now, p);
        return k == NONE ? -2 : k;
    }

    @Override
    public int turn(int kind, int x, int y) {
        if (!begun() || now.turn == 60) {
            return NONE;
        }
        if (!can(now, 0, kind, x, y)) {
            return -2;
        }
        log.add(play(now, new int[] {kind, x, y}, 0));
        acts.add(null);
        return now.turn;
    }

    @Override
    public int settle(int x, int room) {
        return push(1, x, room);
    }

    @Override
    public int shift(int p, int room) {
        return push(2, p, room);
    }

    private int push(int sort, int i, int room) {
        if (!canAct(now, sort, i, room)) {
            return NONE;
        }
        int price = priceOf(now, sort);
        act(now, sort, i, room);
        acts.set(now.turn - 1, new int[] {sort, i, room});
        return price;
    }

    // ---- looking back

    private List<Done[]> replay(int waitIn, int idle) {
        State s = first.copy();
        List<Done[]> rows = new ArrayList<>();
        for (int t = 1; t <= now.turn; t++) {
            Done old = log.get(t - 1)[0];
            int[] deed = {0, NONE, NONE};
            if (t != waitIn && old != null && can(s, 0, old.kind, old.x, old.y)) {
                deed = new int[] {old.kind, old.x, old.y};
            }
            rows.add(play(s, deed, idle));
            int[] a = acts.get(t - 1);
            if (a != null && canAct(s, a[0], a[1], a[2])) {
                act(s, a[0], a[1], a[2]);
            }
        }
        return rows;
    }

    private int changes(List<Done[]> rows, int p) {
        int changed = 0;
        for (int t = 0; t < rows.size(); t++) {
            Done was = log.get(t)[p];
            Done is = rows.get(t)[p];
            changed += was == null ? (is == null ? 0 : 1) : was.sameDeed(is) ? 0 : 1;
        }
        return changed;
    }

    @Override
    public int otherwise(int t) {
        if (!in(t, 1, now.turn)) {
            return NONE;
        }
        List<Done[]> rows = replay(t, 0);
        return changes(rows, 1) + changes(rows, 2) + changes(rows, 3);
    }

    @Override
    public int needless(int p) {
        if (!begun() || !in(p, 1, 3)) {
            return NONE;
        }
        List<Done[]> rows = replay(0, p);
        int changed = 0;
        for (int q = 0; q < 4; q++) {
            changed += q == p ? 0 : changes(rows, q);
        }
        return changed == 0 ? 1 : 0;
    }

    @Override
    public int made(int sort, int seed, int turns, int what) {
        if (!begun() || !in(sort, 0, 2) || !in(seed, 0, 65535) || !in(turns, 1, 20) || !in(what, 0, 2)) {
            return NONE;
        }
        State s = now.copy();
        int broken = anyBroken(s) ? 0 : NONE;
        int lot = seed;
        for (int t = 1; t <= turns; t++) {
            lot = (25173 * lot + 13849) % 65536;
            List<int[]> can = deedsOf(s, 0);
            int[] deed = sort == 0 ? can.get(0) : can.get(lot % can.size());
            for (int i = can.size() - 1; i >= 0 && sort == 2; i--) {
                deed = can.get(i)[0] == 5 ? can.get(i) : deed;
            }
            play(s, deed, 0);
            broken = broken == NONE && anyBroken(s) ? t : broken;
        }
        int dead = 0;
        for (int p = 0; p < 4; p++) {
            dead += s.room[p] == DEAD ? 1 : 0;
        }
        return what == 0 ? broken : what == 1 ? dead : s.events.size() - now.events.size();
    }

    @Override
    public int surprise(int t) {
        if (!in(t, 1, now.turn)) {
            return NONE;
        }
        int surprised = 0;
        for (int p = 1; p < 4 && t > 1; p++) {
            int[] times = new int[7];
            for (int s = 0; s < t - 1; s++) {
                if (log.get(s)[p] != null) {
                    times[log.get(s)[p].kind]++;
                }
            }
            int usual = 0;
            for (int kind = 6; kind >= 0; kind--) {
                usual = times[kind] >= times[usual] ? kind : usual;
            }
            surprised += log.get(t - 1)[p] != null && log.get(t - 1)[p].kind != usual ? 1 : 0;
        }
        return surprised;
    }

    @Override
    public int did(int t, int p, int what) {
        if (!in(t, 1, now.turn) || !in(p, 0, 3) || !in(what, 0, 4) || log.get(t - 1)[p] == null) {
            return NONE;
        }
        Done d = log.get(t - 1)[p];
        return new int[] {d.kind, d.x, d.y, d.kind == 0 ? NONE : d.seen, d.wish}[what];
    }

    @Override
    public int check(int t, int n) {
        if (!in(t, 1, now.turn) || n < 0 || n > tape.length() / 16) {
            return -2;
        }
        List<Integer> due = new ArrayList<>();
        for (int p = 0; p < 4; p++) {
            Done d = log.get(t - 1)[p];
            if (d != null) {
                due.addAll(List.of(p, d.kind, d.x, d.y));
            }
        }
        String fed = tape;
        tape = "";
        for (int i = 0; i < 4 * n; i++) {
            int number = fed.charAt(4 * i) << 24 | fed.charAt(4 * i + 1) << 16 | fed.charAt(4 * i + 2) << 8
                | fed.charAt(4 * i + 3);
            if (i >= due.size() || due.get(i) != number) {
                return i;
            }
        }
        return due.size() > 4 * n ? 4 * n : NONE;
    }

    @Override
    public int where(int p) {
        return in(p, 0, 3) ? now.room[p] : NONE;
    }

    @Override
    public int lies(int x) {
        return in(x, 0, weapons.size() - 1) ? now.place[x] : NONE;
    }

    @Override
    public int count(int what) {
        if (in(what, 11, 13)) {
            return wishes.get(what - 10).size();
        }
        if (in(what, 20, 24)) {
            return now.place[what - 20] == HIDDEN ? now.set[what - 20] : NONE;
        }
        if (in(what, 30, 29 + laws.size())) {
            return laws.get(what - 30).size();
        }
        switch (what) {
            case 0:
                return now.turn;
            case 1:
                return begun() ? 1 : 0;
            case 2:
                return weapons.size();
            case 3:
                return laws.size();
            case 4:
                return now.pushing;
            case 5:
                return now.settles;
            case 6:
                return now.shifts;
            case 7:
                return tape.length();
            case 8:
                return now.events.size();
            default:
                return NONE;
        }
    }
}
