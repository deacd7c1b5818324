/** A tale that bends: see DOC.md; the promises are numbered there. */
public final class BentTale {
    public static final int NONE = -1;

    private static final int ROOMS = 7;
    private static final int PERSONS = 4;
    private static final int ALL_PERSONS = 15;
    private static final int ALL_FOLK = 14;
    private static final int THINGS = 5;
    private static final int TURNS = 60;
    private static final int WISHES = 3;
    private static final int WISH_BYTES = 40;
    private static final int LAWS = 6;
    private static final int LAW_BYTES = 60;
    private static final int CLAUSES = 4;
    private static final int MADE_TURNS = 20;
    private static final int TAPE_BYTES = 400;
    private static final int FEED_BYTES = 20;

    private static final int WAIT = 0;
    private static final int GO = 1;
    private static final int TAKE = 2;
    private static final int DROP = 3;
    private static final int GIVE = 4;
    private static final int HIT = 5;
    private static final int TELL = 6;
    private static final int KINDS = 7;

    private static final int SETTLE = 1;
    private static final int SHIFT = 2;

    // A view is a long of slots of four bits: persons 0 to 3, then things 0 to 4. What is so and what each folk
    // believes are both views, so that one pair of methods tells for both what a deed needs and what it changes.
    // In a slot stands a room (and 1), or one of these; HIDDEN in the truth alone, UNKNOWN in beliefs alone.
    private static final int UNKNOWN = 0;
    private static final int DEAD = 8;
    private static final int HELD = 9;
    private static final int HIDDEN = 13;

    // In the rows of what was done: a person who was dead did nothing.
    private static final int DID_NOTHING = -1;

    private final Tape tape = new Tape();
    private final Stage stage = new Stage();
    private final Wishes wishes = new Wishes();
    private final Laws laws = new Laws();
    private final World now = new World();
    private final World spare = new World();
    private final WishReader wishReader = new WishReader(tape);
    private final LawReader lawReader = new LawReader(tape, laws);
    private final Planner planner = new Planner(stage, wishes);
    private final Play play = new Play(stage, laws, planner);
    private final Teller teller = new Teller(stage, play);
    private final Chronicle chronicle = new Chronicle(stage, play, teller);
    private boolean begun;

    public BentTale() {
    }

    public boolean door(int a, int b) {
        return !begun && isRoom(a) && isRoom(b) && a != b && stage.openDoor(a, b);
    }

    public boolean person(int p, int room) {
        if (begun || !isPerson(p) || !isRoom(room)) {
            return false;
        }
        now.truth = with(now.truth, p, room + 1);
        return true;
    }

    public int thing(int place, boolean weapon) {
        boolean held = place >= 10 && isPerson(place - 10);
        if (begun || stage.things >= THINGS || !isRoom(place) && !held) {
            return NONE;
        }
        int x = stage.addThing(weapon);
        now.truth = with(now.truth, PERSONS + x, inward(place));
        return x;
    }

    public int hidden(int set, boolean weapon) {
        boolean fits = set >= 0 && set < 1 << ROOMS && Integer.bitCount(set) >= 2;
        if (begun || stage.things >= THINGS || !fits) {
            return NONE;
        }
        int x = stage.addThing(weapon);
        now.truth = with(now.truth, PERSONS + x, HIDDEN);
        now.sets |= (long) set << ROOMS * x;
        return x;
    }

    public boolean believe(int p, boolean person, int i, int place) {
        if (begun || !isFolk(p) || !isOne(person, i) || person && i == p) {
            return false;
        }
        boolean held = !person && place >= 10 && isPerson(place - 10) && place != 10 + p;
        if (place != NONE && !isRoom(place) && !held) {
            return false;
        }
        now.minds[p] = with(now.minds[p], person ? i : PERSONS + i, inward(place));
        return true;
    }

    public boolean price(int kind, int n) {
        if (begun || kind < GO || kind > HIT || n < 1 || n > 9) {
            return false;
        }
        stage.setPrice(kind, n);
        return true;
    }

    public int feed(int a, int b, int c, int d, int e) {
        if (tape.length + FEED_BYTES > TAPE_BYTES) {
            return NONE;
        }
        tape.put(a);
        tape.put(b);
        tape.put(c);
        tape.put(d);
        tape.put(e);
        return tape.length;
    }

    public int wish(int p, int weight, int n) {
        boolean fits = isFolk(p) && weight >= 1 && weight <= 9 && n >= 1 && n <= WISH_BYTES;
        if (begun || !fits || wishes.counts[p] >= WISHES || n > tape.length) {
            return NONE;
        }
        int fault = wishReader.read(n);
        tape.clear();
        return fault != 0 ? fault : wishes.add(p, weight, wishReader.tokens, wishReader.size);
    }

    public int law(int n) {
        if (begun || n < 1 || n > LAW_BYTES || laws.many >= LAWS || n > tape.length) {
            return NONE;
        }
        int fault = lawReader.read(n);
        tape.clear();
        return fault != 0 ? fault : laws.keepDraft(lawReader.clauses);
    }

    public boolean begin() {
        if (begun) {
            return false;
        }
        begun = true;
        stage.measureWays();
        play.lookAbout(now);
        chronicle.start(now);
        return true;
    }

    public int believes(int p, boolean person, int i) {
        if (!isFolk(p) || !isOne(person, i)) {
            return NONE;
        }
        int slot = person ? i : PERSONS + i;
        int real = slot(now.truth, slot);
        // Its own place and what it holds it knows even before it has looked about.
        boolean own = person ? i == p : real == HELD + p;
        return outward(own ? real : slot(now.minds[p], slot));
    }

    public int holds(int p, int k) {
        if (!canWish(p, k)) {
            return NONE;
        }
        return planner.isSo(now.minds[p], p, k) ? 1 : 0;
    }

    public int plan(int p, int k, int what) {
        if (!canWish(p, k)) {
            return NONE;
        }
        long plan = planner.planOf(now.minds[p], p, k);
        if (plan == Planner.HOLDS) {
            return NONE;
        }
        if (plan == Planner.NO_PLAN) {
            return -2;
        }
        return toldOfPlan(plan, what);
    }

    public int wanted(int p) {
        if (!begun || !isFolk(p) || slot(now.truth, p) == DEAD) {
            return NONE;
        }
        int choice = planner.choiceOf(now.minds[p], p);
        return choice == 0 ? -2 : wishOf(choice);
    }

    public int turn(int kind, int x, int y) {
        if (!begun || now.turn >= TURNS) {
            return NONE;
        }
        int deed = deedOf(kind, x, y);
        if (deed == NONE || !stage.canDo(now.truth, 0, deed)) {
            return -2;
        }
        play.playTurn(now, deed, 0);
        chronicle.noteTurn(now.turn);
        return now.turn;
    }

    public int settle(int x, int room) {
        if (x < 0 || x >= THINGS || !isRoom(room)) {
            return NONE;
        }
        return push(SETTLE << 6 | x << 3 | room);
    }

    public int shift(int p, int room) {
        if (!isFolk(p) || !isRoom(room)) {
            return NONE;
        }
        return push(SHIFT << 6 | p << 3 | room);
    }

    public int keeps(int i) {
        return i < 0 || i >= laws.many ? NONE : laws.stateOf(now, i);
    }

    public int broken(int i) {
        return i < 0 || i >= laws.many || now.brokenIn[i] == 0 ? NONE : now.brokenIn[i];
    }

    public int kept(int turns) {
        if (!begun || turns < 0 || turns > Teller.AHEAD) {
            return NONE;
        }
        return teller.firstAct(now, turns) >= 0 ? 1 : 0;
    }

    public int loses() {
        if (!begun) {
            return NONE;
        }
        for (int turns = 0; turns <= Teller.AHEAD; turns++) {
            if (teller.firstAct(now, turns) < 0) {
                return turns;
            }
        }
        return Teller.AHEAD + 1;
    }

    public int answer(int turns, int what) {
        if (!begun || turns < 1 || turns > Teller.AHEAD || what < 0 || what > 3) {
            return NONE;
        }
        int act = teller.firstAct(now, turns);
        if (act < 0) {
            return -2;
        }
        switch (what) {
            case 0:
                return act >> 6;
            case 1:
                return act == 0 ? NONE : act >> 3 & 7;
            case 2:
                return act == 0 ? NONE : act & 7;
            default:
                return teller.priceOf(now, act);
        }
    }

    public int otherwise(int t) {
        return t < 1 || t > now.turn ? NONE : chronicle.replay(spare, t, 0, ALL_FOLK);
    }

    public int needless(int p) {
        if (!begun || !isFolk(p)) {
            return NONE;
        }
        return chronicle.replay(spare, 0, p, ALL_PERSONS & ~(1 << p)) == 0 ? 1 : 0;
    }

    public int made(int sort, int seed, int turns, int what) {
        boolean fits = sort >= 0 && sort <= 2 && seed >= 0 && seed <= 65535 && turns >= 1 && turns <= MADE_TURNS;
        if (!begun || !fits || what < 0 || what > 2) {
            return NONE;
        }
        spare.copyFrom(now);
        int firstBroken = play.tryMade(spare, sort, seed, turns);
        switch (what) {
            case 0:
                return firstBroken;
            case 1:
                return deadIn(spare.truth);
            default:
                return spare.events - now.events;
        }
    }

    public int surprise(int t) {
        return t < 1 || t > now.turn ? NONE : chronicle.surprisedIn(t);
    }

    public int did(int t, int p, int what) {
        if (t < 1 || t > now.turn || !isPerson(p) || what < 0 || what > 4) {
            return NONE;
        }
        int entry = chronicle.entryOf(t, p);
        return entry == DID_NOTHING ? NONE : toldOfEntry(entry, what);
    }

    public int check(int t, int n) {
        if (t < 1 || t > now.turn || n < 0 || n > tape.length / 16) {
            return -2;
        }
        int place = chronicle.firstWrong(tape, t, n);
        tape.clear();
        return place;
    }

    public int where(int p) {
        return isPerson(p) ? outward(slot(now.truth, p)) : NONE;
    }

    public int lies(int x) {
        return x >= 0 && x < stage.things ? outward(slot(now.truth, PERSONS + x)) : NONE;
    }

    public int count(int what) {
        switch (what) {
            case 0:
                return now.turn;
            case 1:
                return begun ? 1 : 0;
            case 2:
                return stage.things;
            case 3:
                return laws.many;
            case 4:
                return now.pushing;
            case 5:
                return now.settles;
            case 6:
                return now.shifts;
            case 7:
                return tape.length;
            case 8:
                return now.events;
            default:
                return countOfOne(what);
        }
    }

    private int countOfOne(int what) {
        if (what >= 30) {
            return what - 30 < laws.many ? laws.sizes[what - 30] : NONE;
        }
        if (what >= 20) {
            boolean isHidden = what - 20 < stage.things && slot(now.truth, PERSONS + what - 20) == HIDDEN;
            return isHidden ? now.setOf(what - 20) : NONE;
        }
        return isFolk(what - 10) ? wishes.counts[what - 10] : NONE;
    }

    private int push(int act) {
        if (!teller.canAct(now, act)) {
            return NONE;
        }
        int cost = teller.priceOf(now, act);
        teller.act(now, act);
        chronicle.noteAct(now.turn, act);
        return cost;
    }

    private boolean canWish(int p, int k) {
        return begun && isFolk(p) && k >= 0 && k < wishes.counts[p] && slot(now.truth, p) != DEAD;
    }

    private boolean isOne(boolean person, int i) {
        return person ? isPerson(i) : i >= 0 && i < stage.things;
    }

    private static int toldOfPlan(long plan, int what) {
        int cost = (int) (plan >>> Planner.COST_AT);
        if (what == NONE) {
            return cost >> 3;
        }
        int many = cost & 7;
        if (what == 0) {
            return many;
        }
        if (what < NONE || what > 3 * many) {
            return -3;
        }
        int i = (what - 1) / 3;
        int told = partOf((int) (plan >>> 9 * i), (what - 1) % 3);
        return told == NONE ? -3 : told;
    }

    private static int toldOfEntry(int entry, int what) {
        if (what < 3) {
            return partOf(entry, what);
        }
        if (what == 4) {
            return wishOf(entry);
        }
        return (entry >> 6 & 7) == WAIT ? NONE : entry >> Play.SEEN_AT & 15;
    }

    private static boolean isRoom(int room) {
        return room >= 0 && room < ROOMS;
    }

    private static boolean isPerson(int p) {
        return p >= 0 && p < PERSONS;
    }

    private static boolean isFolk(int p) {
        return p >= 1 && p < PERSONS;
    }

    private static int slot(long view, int slot) {
        return (int) (view >>> 4 * slot) & 15;
    }

    private static long with(long view, int slot, int code) {
        return view & ~(15L << 4 * slot) | (long) code << 4 * slot;
    }

    private static int inward(int place) {
        if (place == NONE) {
            return UNKNOWN;
        }
        return place >= 10 ? HELD + place - 10 : place + 1;
    }

    private static int outward(int code) {
        if (code == HIDDEN) {
            return 20;
        }
        return code >= HELD ? 10 + code - HELD : code - 1;
    }

    private static int deadIn(long truth) {
        int dead = 0;
        for (int p = 0; p < PERSONS; p++) {
            dead += slot(truth, p) == DEAD ? 1 : 0;
        }
        return dead;
    }

    // A deed is told by one number, so made that deeds by kind, x and y are numbers in ascending order.
    private static int deedOf(int kind, int x, int y) {
        if (kind < WAIT || kind > TELL) {
            return NONE;
        }
        boolean fitsX = kind == WAIT ? x == NONE : x >= 0 && x < (kind == GO ? ROOMS : kind == HIT ? PERSONS : THINGS);
        boolean fitsY = kind == GIVE || kind == TELL ? isPerson(y) : y == NONE;
        return fitsX && fitsY ? kind << 6 | x + 1 << 3 | y + 1 : NONE;
    }

    private static int partOf(int deed, int part) {
        if (part == 0) {
            return deed >> 6 & 7;
        }
        return (part == 1 ? deed >> 3 & 7 : deed & 7) - 1;
    }

    private static int wishOf(int entry) {
        return (entry >> Planner.WISH_AT & 7) - 1;
    }

    /** The bytes that were fed, and how far the text of the first of them is read. */
    private static final class Tape {
        private final int[] bytes = new int[TAPE_BYTES];
        private int length;
        private int end;
        private int at;
        private int fault;

        private void put(int word) {
            for (int bits = 24; bits >= 0; bits -= 8) {
                if (length < TAPE_BYTES) {
                    bytes[length] = word >>> bits & 255;
                    length++;
                }
            }
        }

        private void clear() {
            length = 0;
        }

        private int number(int i) {
            int word = 0;
            for (int j = 0; j < 4; j++) {
                int place = 4 * i + j;
                word = word << 8 | (place >= 0 && place < length ? bytes[place] : 0);
            }
            return word;
        }

        private void openText(int n) {
            end = Math.min(n, length);
            at = 0;
            fault = 0;
        }

        private int sign() {
            return at >= 0 && at < end ? bytes[at] : NONE;
        }

        private boolean skipIf(char sign) {
            if (sign() != sign) {
                return false;
            }
            at++;
            return true;
        }

        private boolean isDigit() {
            return sign() >= '0' && sign() <= '9';
        }

        private boolean fail(int number) {
            fault = -1000 * number - at;
            return false;
        }

        /** A digit up to the greatest that may stand here; NONE with a fault behind it. */
        private int digit(int greatest) {
            int digit = sign() - '0';
            if (digit < 0 || digit > 9) {
                fail(1);
                return NONE;
            }
            if (digit > greatest) {
                fail(3);
                return NONE;
            }
            at++;
            return digit;
        }
    }

    /** Reads the text of a wish: its parts are put down behind what they join, so that it can be weighed in one go. */
    private static final class WishReader {
        private static final int MOST_OPEN = 6;

        private final Tape tape;
        private final int[] tokens = new int[WISH_BYTES];
        private int size;

        private WishReader(Tape tape) {
            this.tape = tape;
        }

        private int read(int n) {
            tape.openText(n);
            size = 0;
            if (oneOf(0) && tape.at < n) {
                tape.fail(1);
            }
            return tape.fault;
        }

        private boolean oneOf(int open) {
            if (!allOf(open)) {
                return false;
            }
            for (int i = 0; i < WISH_BYTES && tape.skipIf('|'); i++) {
                if (!allOf(open)) {
                    return false;
                }
                emit(Wishes.OR, 0, 0);
            }
            return true;
        }

        private boolean allOf(int open) {
            if (!piece(open)) {
                return false;
            }
            for (int i = 0; i < WISH_BYTES && tape.skipIf('&'); i++) {
                if (!piece(open)) {
                    return false;
                }
                emit(Wishes.AND, 0, 0);
            }
            return true;
        }

        private boolean piece(int open) {
            int sign = tape.sign();
            if (sign != '!' && sign != '(') {
                return atom(sign);
            }
            if (open >= MOST_OPEN) {
                return tape.fail(5);
            }
            tape.at++;
            return sign == '!' ? negated(open + 1) : bracketed(open + 1);
        }

        private boolean negated(int open) {
            boolean read = piece(open);
            emit(Wishes.NOT, 0, 0);
            return read;
        }

        private boolean bracketed(int open) {
            return oneOf(open) && (tape.skipIf(')') || tape.fail(1));
        }

        private boolean atom(int letter) {
            int sort;
            int greatestA = THINGS - 1;
            int greatestB = NONE;
            switch (letter) {
                case 'h':
                    sort = Wishes.HAS;
                    break;
                case 'i':
                    sort = Wishes.IS_IN;
                    greatestA = ROOMS - 1;
                    break;
                case 'd':
                    sort = Wishes.IS_DEAD;
                    greatestA = PERSONS - 1;
                    break;
                case 'l':
                    sort = Wishes.LIES;
                    greatestB = ROOMS - 1;
                    break;
                case 'o':
                    sort = Wishes.OWNS;
                    greatestA = PERSONS - 1;
                    greatestB = THINGS - 1;
                    break;
                default:
                    return tape.fail(1);
            }
            tape.at++;
            int a = tape.digit(greatestA);
            int b = a == NONE || greatestB == NONE ? 0 : tape.digit(greatestB);
            emit(sort, a, b);
            return a != NONE && b != NONE;
        }

        private void emit(int sort, int a, int b) {
            if (size < WISH_BYTES) {
                tokens[size] = sort << 6 | (a & 7) << 3 | b & 7;
                size++;
            }
        }
    }

    /** Reads the text of a law into the row of clauses behind those of the laws that stand. */
    private static final class LawReader {
        private final Tape tape;
        private final Laws laws;
        private int clauses;
        private int mask;
        private int value;

        private LawReader(Tape tape, Laws laws) {
            this.tape = tape;
            this.laws = laws;
        }

        private int read(int n) {
            tape.openText(n);
            clauses = 0;
            for (int i = 0; i < LAW_BYTES && clause(); i++) {
                if (tape.at >= n) {
                    return 0;
                }
                if (!tape.skipIf(';')) {
                    tape.fail(1);
                    return tape.fault;
                }
            }
            return tape.fault;
        }

        private boolean clause() {
            int letter = tape.sign();
            if (letter != 'n' && letter != 'a' && letter != 'r' && letter != 'e') {
                return tape.fail(1);
            }
            int i = laws.many * CLAUSES + clauses;
            if (clauses >= CLAUSES || i >= LAWS * CLAUSES) {
                return tape.fail(4);
            }
            tape.at++;
            clauses++;
            laws.sorts[i] = letter;
            if (!event()) {
                return false;
            }
            laws.firstMasks[i] = mask;
            laws.firstValues[i] = value;
            if (letter == 'a' || letter == 'r') {
                if (!comma() || !event()) {
                    return false;
                }
                laws.secondMasks[i] = mask;
                laws.secondValues[i] = value;
            }
            return letter == 'n' || letter == 'a' || comma() && limit(i);
        }

        private boolean comma() {
            return tape.skipIf(',') || tape.fail(1);
        }

        private boolean limit(int i) {
            int number = tape.digit(9);
            if (number == NONE) {
                return false;
            }
            if (tape.isDigit()) {
                number = 10 * number + tape.digit(9);
            }
            if (tape.isDigit()) {
                return tape.fail(2);
            }
            laws.limits[i] = number;
            return true;
        }

        private boolean event() {
            int kind = kindOf(tape.sign());
            if (kind == NONE) {
                return tape.fail(1);
            }
            tape.at++;
            mask = 7;
            value = kind;
            // Of who the digit itself, of x and y the digit and 1 stands in an event.
            if (!part(3, 0) || !part(6, 1) || !part(9, 1)) {
                return false;
            }
            if (tape.skipIf('u')) {
                mask |= Laws.UNSEEN;
                value |= Laws.UNSEEN;
            }
            return true;
        }

        private boolean part(int shift, int more) {
            if (tape.skipIf('.')) {
                return true;
            }
            int digit = tape.digit(6);
            if (digit == NONE) {
                return false;
            }
            mask |= 7 << shift;
            value |= digit + more << shift;
            return true;
        }

        private static int kindOf(int letter) {
            switch (letter) {
                case 'g':
                    return GO;
                case 't':
                    return TAKE;
                case 'd':
                    return DROP;
                case 'v':
                    return GIVE;
                case 'h':
                    return HIT;
                case 'l':
                    return TELL;
                default:
                    return NONE;
            }
        }
    }

    /** What the whole tale is played on: doors, weapons, prices, and the row of all deeds. */
    private static final class Stage {
        private static final int ALL_DEEDS = 62;
        // Behind WAIT and ahead of TELL stand the deeds that folk plan.
        private static final int FIRST_PLANNED = 1;
        private static final int END_PLANNED = 42;
        private static final int FAR = 99;

        private final int[] deeds = new int[ALL_DEEDS];
        private final int[] costs = new int[KINDS];
        private final int[] ways = new int[ROOMS * ROOMS];
        private long doors;
        private int weapons;
        private int things;

        private Stage() {
            int many = 1;
            for (int kind = GO; kind <= TELL; kind++) {
                int xs = kind == GO ? ROOMS : kind == HIT ? PERSONS : THINGS;
                boolean toSome = kind == GIVE || kind == TELL;
                for (int x = 0; x < xs; x++) {
                    for (int y = toSome ? 0 : NONE; y < (toSome ? PERSONS : 0); y++) {
                        if (many < ALL_DEEDS) {
                            deeds[many] = kind << 6 | x + 1 << 3 | y + 1;
                            many++;
                        }
                    }
                }
                setPrice(kind, 1);
            }
        }

        // A price and its one deed in one number: of like prices that of fewer deeds is the lesser.
        private void setPrice(int kind, int n) {
            if (kind >= 0 && kind < KINDS) {
                costs[kind] = 8 * n + 1;
            }
        }

        private int cheapest() {
            int least = costs[GO];
            for (int kind = TAKE; kind <= HIT; kind++) {
                least = Math.min(least, costs[kind]);
            }
            return least;
        }

        private int addThing(boolean weapon) {
            weapons |= weapon ? 1 << things : 0;
            things++;
            return things - 1;
        }

        private boolean openDoor(int a, int b) {
            if (hasDoor(a, b)) {
                return false;
            }
            doors |= 1L << ROOMS * a + b | 1L << ROOMS * b + a;
            return true;
        }

        private boolean hasDoor(int a, int b) {
            return (doors >>> ROOMS * a + b & 1) != 0;
        }

        private void measureWays() {
            for (int a = 0; a < ROOMS; a++) {
                for (int b = 0; b < ROOMS; b++) {
                    ways[ROOMS * a + b] = a == b ? 0 : hasDoor(a, b) ? 1 : FAR;
                }
            }
            for (int by = 0; by < ROOMS; by++) {
                for (int a = 0; a < ROOMS; a++) {
                    for (int b = 0; b < ROOMS; b++) {
                        int round = ways[ROOMS * a + by] + ways[ROOMS * by + b];
                        ways[ROOMS * a + b] = Math.min(ways[ROOMS * a + b], round);
                    }
                }
            }
        }

        /** Whether person p can do the deed, if all is as the view tells. */
        private boolean canDo(long view, int p, int deed) {
            int kind = deed >> 6;
            int x = (deed >> 3 & 7) - 1;
            int y = (deed & 7) - 1;
            int here = (int) (view >>> 4 * p) & 15;
            if (kind == WAIT || here < 1 || here > ROOMS) {
                return kind == WAIT;
            }
            if (kind == GO) {
                return (doors >>> ROOMS * (here - 1) + x & 1) != 0;
            }
            if (kind == HIT) {
                boolean armed = false;
                for (int i = 0; i < THINGS; i++) {
                    armed |= (weapons >> i & 1) != 0 && ((int) (view >>> 16 + 4 * i) & 15) == HELD + p;
                }
                return armed && x != p && ((int) (view >>> 4 * x) & 15) == here;
            }
            if ((kind == GIVE || kind == TELL) && (y == p || ((int) (view >>> 4 * y) & 15) != here)) {
                return false;
            }
            int place = (int) (view >>> 16 + 4 * x) & 15;
            return kind == TELL ? p == 0 && x < things : place == (kind == TAKE ? here : HELD + p);
        }

        /** The view behind the deed of person p, who can do it. */
        private long applied(long view, int p, int deed) {
            int kind = deed >> 6;
            int x = (deed >> 3 & 7) - 1;
            int here = (int) (view >>> 4 * p) & 15;
            if (kind == GO) {
                return view & ~(15L << 4 * p) | (long) (x + 1) << 4 * p;
            }
            if (kind == HIT) {
                long after = view & ~(15L << 4 * x) | (long) DEAD << 4 * x;
                for (int at = 16; at < 36; at += 4) {
                    if (((int) (view >>> at) & 15) == HELD + x) {
                        after = after & ~(15L << at) | (long) here << at;
                    }
                }
                return after;
            }
            if (kind == WAIT || kind == TELL) {
                return view;
            }
            int place = kind == TAKE ? HELD + p : kind == DROP ? here : HELD + (deed & 7) - 1;
            return view & ~(15L << 16 + 4 * x) | (long) place << 16 + 4 * x;
        }
    }

    /** How the tale stands: all that a turn or an act of the teller's can change. */
    private static final class World {
        private final long[] minds = new long[PERSONS];
        private final int[] marks = new int[LAWS * CLAUSES];
        private final int[] brokenIn = new int[LAWS];
        // What the teller found for 0, 1 and 2 turns, and 2; 0 as long as it was not sought.
        private final int[] found = new int[Teller.AHEAD + 1];
        // Persons stand in room 0 at first.
        private long truth = 0x1111L;
        private long sets;
        private int turn;
        private int brokenLaws;
        private int settles;
        private int shifts;
        private int pushing;
        private int events;
        private boolean acted;

        private void copyFrom(World other) {
            System.arraycopy(other.minds, 0, minds, 0, PERSONS);
            System.arraycopy(other.marks, 0, marks, 0, LAWS * CLAUSES);
            System.arraycopy(other.brokenIn, 0, brokenIn, 0, LAWS);
            forget();
            truth = other.truth;
            sets = other.sets;
            turn = other.turn;
            brokenLaws = other.brokenLaws;
            settles = other.settles;
            shifts = other.shifts;
            pushing = other.pushing;
            events = other.events;
            acted = other.acted;
        }

        private void forget() {
            for (int i = 0; i <= Teller.AHEAD; i++) {
                found[i] = 0;
            }
        }

        /** Whether from here on all would come as from the other one (but how many events there were). */
        private boolean goesOnAs(World other) {
            boolean same = truth == other.truth && sets == other.sets && brokenLaws == other.brokenLaws;
            for (int p = 0; p < PERSONS; p++) {
                same &= minds[p] == other.minds[p];
            }
            for (int i = 0; i < LAWS * CLAUSES; i++) {
                same &= marks[i] == other.marks[i];
            }
            return same;
        }

        private int setOf(int x) {
            return (int) (sets >>> ROOMS * x) & 127;
        }
    }

    /** The wishes of all folk, each as a row of tokens: what is joined stands ahead of what joins it. */
    private static final class Wishes {
        private static final int HAS = 0;
        private static final int IS_IN = 1;
        private static final int IS_DEAD = 2;
        private static final int LIES = 3;
        private static final int OWNS = 4;
        private static final int NOT = 5;
        private static final int AND = 6;
        private static final int OR = 7;

        private final int[] tokens = new int[PERSONS * WISHES * WISH_BYTES];
        private final int[] sizes = new int[PERSONS * WISHES];
        private final int[] weights = new int[PERSONS * WISHES];
        private final int[] order = new int[PERSONS * WISHES];
        private final int[] counts = new int[PERSONS];

        private int add(int p, int weight, int[] from, int size) {
            int k = p >= 0 && p < PERSONS ? counts[p] : WISHES;
            if (k >= WISHES) {
                return NONE;
            }
            int row = p * WISHES + k;
            System.arraycopy(from, 0, tokens, row * WISH_BYTES, WISH_BYTES);
            sizes[row] = size;
            weights[row] = weight;
            counts[p]++;
            int place = row;
            while (place > p * WISHES && weights[p * WISHES + order[place - 1]] < weight) {
                order[place] = order[place - 1];
                place--;
            }
            order[place] = k;
            return k;
        }
    }

    /** The laws: clauses as rows, four to each law; an event is told by one number. */
    private static final class Laws {
        private static final int UNSEEN = 1 << 12;

        private final int[] sorts = new int[LAWS * CLAUSES];
        private final int[] firstMasks = new int[LAWS * CLAUSES];
        private final int[] firstValues = new int[LAWS * CLAUSES];
        private final int[] secondMasks = new int[LAWS * CLAUSES];
        private final int[] secondValues = new int[LAWS * CLAUSES];
        private final int[] limits = new int[LAWS * CLAUSES];
        private final int[] sizes = new int[LAWS];
        private int many;

        private int keepDraft(int clauses) {
            if (many >= LAWS) {
                return NONE;
            }
            sizes[many] = clauses;
            many++;
            return many - 1;
        }

        private int stateOf(World w, int i) {
            if (w.brokenIn[i] != 0) {
                return 2;
            }
            for (int c = i * CLAUSES; c < i * CLAUSES + sizes[i]; c++) {
                if (sorts[c] == 'r' && w.marks[c] != 0 || sorts[c] == 'e' && w.marks[c] == 0) {
                    return 1;
                }
            }
            return 0;
        }

        private static int eventOf(int p, int deed, boolean unseen) {
            return deed >> 6 & 7 | p << 3 | (deed >> 3 & 7) << 6 | (deed & 7) << 9 | (unseen ? UNSEEN : 0);
        }

        private void hear(World w, int event) {
            for (int i = 0; i < many; i++) {
                for (int c = i * CLAUSES; c < i * CLAUSES + sizes[i]; c++) {
                    if (breaks(w, c, event)) {
                        breakLaw(w, i);
                    }
                }
            }
        }

        // Marks: a: an event like the first has been; r: the turn of the earliest for which something must
        // come still; e: it came.
        private boolean breaks(World w, int c, int event) {
            boolean first = (event & firstMasks[c]) == firstValues[c];
            boolean second = (event & secondMasks[c]) == secondValues[c];
            if (sorts[c] == 'n') {
                return first;
            }
            if (sorts[c] == 'a') {
                boolean tooEarly = second && w.marks[c] == 0;
                w.marks[c] |= first ? 1 : 0;
                return tooEarly;
            }
            if (sorts[c] == 'r') {
                int pending = second ? 0 : w.marks[c];
                w.marks[c] = first && pending == 0 ? w.turn : pending;
                return false;
            }
            w.marks[c] |= first && w.turn <= limits[c] ? 1 : 0;
            return false;
        }

        private void closeTurn(World w) {
            for (int i = 0; i < many; i++) {
                for (int c = i * CLAUSES; c < i * CLAUSES + sizes[i]; c++) {
                    boolean lateR = sorts[c] == 'r' && w.marks[c] != 0 && w.turn >= w.marks[c] + limits[c];
                    boolean lateE = sorts[c] == 'e' && w.marks[c] == 0 && w.turn >= limits[c];
                    if (lateR || lateE) {
                        breakLaw(w, i);
                    }
                }
            }
        }

        private static void breakLaw(World w, int i) {
            if (w.brokenIn[i] == 0) {
                w.brokenIn[i] = w.turn;
                w.brokenLaws++;
            }
        }
    }

    /** Finds what folk want and how they think to come by it. */
    private static final class Planner {
        private static final int DEEDS = 4;
        // A plan is one number: its deeds, the first lowest, and above them its cost.
        private static final int COST_AT = 9 * DEEDS;
        private static final int WISH_AT = 13;
        private static final long NO_PLAN = 0;
        private static final long HOLDS = -1;
        private static final int NEVER = 100_000;
        private static final int MEMO_BITS = 9;
        private static final int[] UNITS = {1, 1, 1, 1, 1, 1, 1};

        private final Stage stage;
        private final Wishes wishes;
        // The tale's few minds come back again and again when the teller looks ahead.
        private final long[] keys = new long[1 << MEMO_BITS];
        private final long[] plans = new long[1 << MEMO_BITS];
        private final int[] yes = new int[WISH_BYTES];
        private final int[] no = new int[WISH_BYTES];
        private final int[] toMeet = new int[PERSONS];
        private final int[] toHit = new int[PERSONS];
        private final int[] toHold = new int[THINGS];
        private final int[] source = new int[THINGS];
        private int folk;
        private int wishRow;
        private int limit;
        private int bestCost;
        private long best;

        private Planner(Stage stage, Wishes wishes) {
            this.stage = stage;
            this.wishes = wishes;
        }

        /** What a folk does by its beliefs: a deed, and above it the wish and 1 for which; 0 when it waits. */
        private int choiceOf(long mind, int p) {
            if (p < 1 || p >= PERSONS) {
                return 0;
            }
            for (int i = 0; i < wishes.counts[p]; i++) {
                int k = wishes.order[p * WISHES + i];
                long plan = planOf(mind, p, k);
                if (plan != NO_PLAN && plan != HOLDS) {
                    return (int) (plan & 511) | k + 1 << WISH_AT;
                }
            }
            return 0;
        }

        private boolean isSo(long mind, int p, int k) {
            folk = p;
            wishRow = p * WISHES + k;
            measure(mind, UNITS);
            weigh(mind, UNITS);
            return folded() == 0;
        }

        private long planOf(long mind, int p, int k) {
            long key = mind | (long) p << 36 | (long) k << 38;
            int place = (int) (key * 0x9E3779B97F4A7C15L >>> 64 - MEMO_BITS);
            if (keys[place] == key) {
                return plans[place];
            }
            best = NO_PLAN;
            bestCost = NEVER;
            if (isSo(mind, p, k)) {
                best = HOLDS;
            } else {
                int cheapest = stage.cheapest();
                // Short rows first: what they cost keeps the search among longer ones small.
                for (limit = 1; limit <= DEEDS && limit * cheapest < bestCost; limit++) {
                    extend(this, mind, 0, 0, 0);
                }
            }
            keys[place] = key;
            plans[place] = best;
            return best;
        }

        // Rows come in ascending order, so that of those of like cost the least is found first and stays.
        private static void extend(Planner self, long view, int depth, int spent, long row) {
            if (depth >= self.limit || depth >= DEEDS) {
                return;
            }
            Stage stage = self.stage;
            for (int i = Stage.FIRST_PLANNED; i < Stage.END_PLANNED; i++) {
                int deed = stage.deeds[i];
                int cost = spent + stage.costs[deed >> 6];
                if (cost >= self.bestCost || !stage.canDo(view, self.folk, deed)) {
                    continue;
                }
                long after = stage.applied(view, self.folk, deed);
                long longer = row | (long) deed << 9 * depth;
                self.measure(after, UNITS);
                self.weigh(after, UNITS);
                int need = self.folded();
                if (need == 0) {
                    self.bestCost = cost;
                    self.best = longer | (long) cost << COST_AT;
                } else if (need < self.limit - depth) {
                    self.measure(after, stage.costs);
                    self.weigh(after, stage.costs);
                    if (cost + self.folded() < self.bestCost) {
                        extend(self, after, depth + 1, cost, longer);
                    }
                }
            }
        }

        // The least that it can cost the folk, by the view, to come to persons, to hit them and to hold things; and
        // the rooms in which these are taken (if they can be).
        private void measure(long view, int[] costs) {
            int here = Math.max(0, Math.min(ROOMS, (int) (view >>> 4 * folk) & 15) - 1);
            for (int q = 0; q < PERSONS; q++) {
                int at = ((int) (view >>> 4 * q) & 15) - 1;
                toMeet[q] = at >= 0 && at < ROOMS ? stage.ways[ROOMS * here + at] * costs[GO] : NEVER;
            }
            int toArm = NEVER;
            for (int x = 0; x < THINGS; x++) {
                int place = (int) (view >>> 16 + 4 * x) & 15;
                source[x] = here;
                toHold[x] = NEVER;
                if (place == HELD + folk) {
                    toHold[x] = 0;
                } else if (place >= HELD && place < HELD + PERSONS && toMeet[place - HELD] < NEVER) {
                    source[x] = Math.max(0, ((int) (view >>> 4 * (place - HELD)) & 15) - 1);
                    toHold[x] = toMeet[place - HELD] + costs[HIT] + costs[TAKE];
                } else if (place >= 1 && place <= ROOMS) {
                    source[x] = place - 1;
                    toHold[x] = stage.ways[ROOMS * here + place - 1] * costs[GO] + costs[TAKE];
                }
                if ((stage.weapons >> x & 1) != 0) {
                    toArm = Math.min(toArm, toHold[x]);
                }
            }
            for (int q = 0; q < PERSONS; q++) {
                toHit[q] = q == folk ? NEVER : Math.max(toArm, toMeet[q]) + costs[HIT];
            }
        }

        // What it costs at least to make each atom hold, and to make it not hold; 0 tells that it is so already.
        private void weigh(long view, int[] costs) {
            int here = Math.max(0, Math.min(ROOMS, (int) (view >>> 4 * folk) & 15) - 1);
            int toLose = Math.min(costs[DROP], costs[GIVE]);
            int toLay = Math.min(costs[DROP], costs[GIVE] + costs[HIT]);
            for (int i = 0; i < wishes.sizes[wishRow]; i++) {
                int token = wishes.tokens[wishRow * WISH_BYTES + i];
                int a = token >> 3 & 7;
                int b = token & 7;
                int sort = token >> 6;
                boolean so;
                int make;
                int unmake = toLose;
                if (sort == Wishes.HAS || sort == Wishes.OWNS && a == folk) {
                    make = toHold[sort == Wishes.HAS ? a : b];
                    so = make == 0;
                } else if (sort == Wishes.IS_IN) {
                    so = here == a;
                    make = stage.ways[ROOMS * here + a] * costs[GO];
                    unmake = costs[GO];
                } else if (sort == Wishes.IS_DEAD) {
                    so = ((int) (view >>> 4 * a) & 15) == DEAD;
                    make = toHit[a];
                    unmake = NEVER;
                } else if (sort == Wishes.LIES) {
                    int place = (int) (view >>> 16 + 4 * a) & 15;
                    so = place == b + 1;
                    boolean atHolder = place >= HELD && place != HELD + folk && source[a] == b;
                    int carried = toHold[a] + stage.ways[ROOMS * source[a] + b] * costs[GO] + toLay;
                    make = atHolder ? toHold[a] - costs[TAKE] : carried;
                    unmake = toHold[a];
                } else if (sort == Wishes.OWNS) {
                    int at = ((int) (view >>> 4 * a) & 15) - 1;
                    boolean known = at >= 0 && at < ROOMS;
                    int way = known ? stage.ways[ROOMS * source[b] + at] * costs[GO] : NEVER;
                    so = ((int) (view >>> 16 + 4 * b) & 15) == HELD + a;
                    make = toHold[b] + way + costs[GIVE];
                    unmake = toHit[a];
                } else {
                    continue;
                }
                yes[i] = so ? 0 : make;
                no[i] = so ? unmake : 0;
            }
        }

        // What the whole wish needs at least: what all must hold needs as much as the dearest of them.
        private int folded() {
            int top = 0;
            for (int i = 0; i < wishes.sizes[wishRow]; i++) {
                int sort = wishes.tokens[wishRow * WISH_BYTES + i] >> 6;
                if (sort < Wishes.NOT) {
                    yes[top] = yes[i];
                    no[top] = no[i];
                    top++;
                } else if (sort == Wishes.NOT && top >= 1) {
                    int swapped = yes[top - 1];
                    yes[top - 1] = no[top - 1];
                    no[top - 1] = swapped;
                } else if (sort == Wishes.AND && top >= 2) {
                    top--;
                    yes[top - 1] = Math.max(yes[top - 1], yes[top]);
                    no[top - 1] = Math.min(no[top - 1], no[top]);
                } else if (sort == Wishes.OR && top >= 2) {
                    top--;
                    yes[top - 1] = Math.min(yes[top - 1], yes[top]);
                    no[top - 1] = Math.max(no[top - 1], no[top]);
                }
            }
            return yes[0];
        }
    }

    /** Plays deeds and turns, on whichever world. */
    private static final class Play {
        private static final int SEEN_AT = 9;

        private final Stage stage;
        private final Laws laws;
        private final Planner planner;
        // What each person did in the turn that was played last: the deed, who saw it, the wish and 1.
        private final int[] entries = new int[PERSONS];

        private Play(Stage stage, Laws laws, Planner planner) {
            this.stage = stage;
            this.laws = laws;
            this.planner = planner;
        }

        private void playTurn(World w, int deed, int idle) {
            strangerDoes(w, deed);
            folkDo(w, idle);
        }

        private void strangerDoes(World w, int deed) {
            w.forget();
            w.acted = false;
            w.turn++;
            entries[0] = slot(w.truth, 0) == DEAD ? DID_NOTHING : perform(w, 0, deed);
        }

        private void folkDo(World w, int idle) {
            for (int p = 1; p < PERSONS; p++) {
                if (slot(w.truth, p) == DEAD) {
                    entries[p] = DID_NOTHING;
                } else {
                    int choice = p == idle ? 0 : planner.choiceOf(w.minds[p], p);
                    entries[p] = perform(w, p, choice & 511) | choice;
                }
            }
            laws.closeTurn(w);
        }

        private int perform(World w, int p, int deed) {
            int kind = deed >> 6;
            if (kind == WAIT) {
                return deed;
            }
            int left = slot(w.truth, p);
            w.truth = stage.applied(w.truth, p, deed);
            int come = slot(w.truth, p);
            int seen = 0;
            for (int q = 0; q < PERSONS; q++) {
                int at = slot(w.truth, q);
                seen |= q != p && (at == left || at == come) ? 1 << q : 0;
                if (kind == HIT && q != 0 && at == left) {
                    w.minds[q] = with(w.minds[q], partOf(deed, 1), DEAD);
                }
            }
            if (kind == TELL) {
                tell(w, partOf(deed, 1), partOf(deed, 2));
            }
            w.events++;
            laws.hear(w, Laws.eventOf(p, deed, seen == 0));
            lookAbout(w);
            return deed | seen << SEEN_AT;
        }

        // The stranger alone tells, and it tells what is so.
        private static void tell(World w, int x, int y) {
            if (isFolk(y)) {
                int real = slot(w.truth, PERSONS + x);
                w.minds[y] = with(w.minds[y], PERSONS + x, real == HIDDEN ? UNKNOWN : real);
            }
        }

        private void lookAbout(World w) {
            lookFor(w);
            for (int p = 1; p < PERSONS; p++) {
                look(w, p);
            }
        }

        private void lookFor(World w) {
            for (int p = 0; p < PERSONS; p++) {
                int room = slot(w.truth, p) - 1;
                for (int x = 0; x < THINGS && room >= 0 && room < ROOMS; x++) {
                    if (slot(w.truth, PERSONS + x) == HIDDEN && (w.setOf(x) >> room & 1) != 0) {
                        w.sets &= ~(1L << ROOMS * x + room);
                        if (Integer.bitCount(w.setOf(x)) == 1) {
                            int last = Integer.bitCount(w.setOf(x) - 1);
                            w.truth = with(w.truth, PERSONS + x, last + 1);
                        }
                    }
                }
            }
        }

        private void look(World w, int p) {
            int here = slot(w.truth, p);
            if (here == DEAD) {
                return;
            }
            long mind = w.minds[p];
            for (int i = 0; i < PERSONS + THINGS; i++) {
                int real = slot(w.truth, i);
                int believed = slot(mind, i);
                boolean isHere = real == here || i >= PERSONS && isHeldIn(w, real, here);
                boolean seemsHere = believed == here || i >= PERSONS && isHeldIn(w, believed, here);
                if (isHere) {
                    mind = with(mind, i, real);
                } else if (seemsHere) {
                    mind = with(mind, i, UNKNOWN);
                }
            }
            w.minds[p] = mind;
        }

        private static boolean isHeldIn(World w, int place, int room) {
            return place >= HELD && place < HELD + PERSONS && ((int) (w.truth >>> 4 * (place - HELD)) & 15) == room;
        }

        /** Tries a made stranger: the turn behind which a law is broken first, 0 if one is already, else NONE. */
        private int tryMade(World w, int sort, int seed, int turns) {
            int firstBroken = w.brokenLaws > 0 ? 0 : NONE;
            int lot = seed;
            for (int t = 1; t <= turns; t++) {
                lot = 25173 * lot + 13849 & 65535;
                int deed = sort == 0 ? WAIT : madeDeed(w.truth, sort == 2, lot);
                playTurn(w, deed, 0);
                if (firstBroken == NONE && w.brokenLaws > 0) {
                    firstBroken = t;
                }
            }
            return firstBroken;
        }

        private int madeDeed(long truth, boolean cruel, int lot) {
            int many = 0;
            for (int i = 0; i < Stage.ALL_DEEDS; i++) {
                boolean can = stage.canDo(truth, 0, stage.deeds[i]);
                if (can && cruel && stage.deeds[i] >> 6 == HIT) {
                    return stage.deeds[i];
                }
                many += can ? 1 : 0;
            }
            int ahead = many > 0 ? lot % many : 0;
            for (int i = 0; i < Stage.ALL_DEEDS; i++) {
                if (stage.canDo(truth, 0, stage.deeds[i])) {
                    if (ahead == 0) {
                        return stage.deeds[i];
                    }
                    ahead--;
                }
            }
            return WAIT;
        }
    }

    /** What the teller can do, and by which act the laws can be kept; an act is its sort, whom or what, and a room. */
    private static final class Teller {
        private static final int AHEAD = 2;
        private static final int CODES = 64;

        private final Stage stage;
        private final Play play;
        // One world for each turn that is looked ahead, behind an act and behind the turn.
        private final World[] acted = {new World(), new World(), new World()};
        private final World[] played = {new World(), new World(), new World()};
        // The deed that led to the last harm is the first to try again.
        private final int[] harms = new int[AHEAD + 1];

        private Teller(Stage stage, Play play) {
            this.stage = stage;
            this.play = play;
        }

        private boolean canAct(World w, int act) {
            int i = act >> 3 & 7;
            int room = act & 7;
            if (w.turn == 0 || w.acted || room >= ROOMS) {
                return false;
            }
            if (act >> 6 == SETTLE) {
                boolean isOpen = i < THINGS && slot(w.truth, PERSONS + i) == HIDDEN && (w.setOf(i) >> room & 1) != 0;
                for (int p = 0; p < PERSONS; p++) {
                    isOpen &= slot(w.truth, p) != room + 1;
                }
                return isOpen;
            }
            int from = isFolk(i) ? slot(w.truth, i) - 1 : NONE;
            int watched = slot(w.truth, 0) - 1;
            return from >= 0 && from < ROOMS && stage.hasDoor(from, room) && watched != from && watched != room;
        }

        private int priceOf(World w, int act) {
            if (act == 0) {
                return 0;
            }
            return act >> 6 == SETTLE ? 2 * (w.settles + 1) : 3 * (w.shifts + 1);
        }

        private void act(World w, int act) {
            int i = act >> 3 & 7;
            int code = (act & 7) + 1;
            w.pushing += priceOf(w, act);
            if (act >> 6 == SETTLE) {
                w.truth = with(w.truth, PERSONS + i, code);
                w.settles++;
            } else {
                w.truth = with(w.truth, i, code);
                w.shifts++;
            }
            w.acted = true;
            w.forget();
            play.lookAbout(w);
        }

        /** The answer: the first, by price and number, of the acts by which the laws can be kept; 0 for none. */
        private int firstAct(World w, int turns) {
            if (w.brokenLaws > 0 || turns < 0 || turns > AHEAD) {
                return NONE;
            }
            if (turns == 0) {
                return 0;
            }
            if (w.found[turns] != 0) {
                return w.found[turns] - 2;
            }
            int act = withstands(w, turns) ? 0 : NONE;
            boolean settleFirst = priceOf(w, SETTLE << 6) <= priceOf(w, SHIFT << 6);
            for (int i = 0; i < 2 * CODES && act == NONE; i++) {
                int sort = i < CODES == settleFirst ? SETTLE : SHIFT;
                int tried = sort << 6 | i % CODES;
                if (canAct(w, tried)) {
                    acted[turns].copyFrom(w);
                    act(acted[turns], tried);
                    act = withstands(acted[turns], turns) ? tried : NONE;
                }
            }
            w.found[turns] = act + 2;
            return act;
        }

        private boolean withstands(World w, int turns) {
            if (turns < 1 || turns > AHEAD) {
                return false;
            }
            World after = played[turns];
            int first = harms[turns];
            for (int i = NONE; i < Stage.ALL_DEEDS; i++) {
                int deed = i < 0 ? first : stage.deeds[i];
                if (i >= 0 && deed == first || !stage.canDo(w.truth, 0, deed)) {
                    continue;
                }
                after.copyFrom(w);
                play.strangerDoes(after, deed);
                // What changes nothing comes to the same as waiting.
                if (deed != WAIT && after.goesOnAs(w)) {
                    continue;
                }
                play.folkDo(after, 0);
                if (firstAct(after, turns - 1) < 0) {
                    harms[turns] = deed;
                    return false;
                }
            }
            return true;
        }
    }

    /** What was done in all turns that are over, and what would have been done otherwise. */
    private static final class Chronicle {
        private final Stage stage;
        private final Play play;
        private final Teller teller;
        private final World first = new World();
        private final int[] entries = new int[(TURNS + 1) * PERSONS];
        private final int[] acts = new int[TURNS + 1];
        private int turns;

        private Chronicle(Stage stage, Play play, Teller teller) {
            this.stage = stage;
            this.play = play;
            this.teller = teller;
        }

        private void start(World w) {
            first.copyFrom(w);
        }

        private void noteTurn(int t) {
            if (t >= 1 && t <= TURNS) {
                turns = t;
                System.arraycopy(play.entries, 0, entries, t * PERSONS, PERSONS);
            }
        }

        private void noteAct(int t, int act) {
            if (t >= 1 && t <= TURNS) {
                acts[t] = act;
            }
        }

        private int entryOf(int t, int p) {
            return t >= 1 && t <= TURNS && isPerson(p) ? entries[t * PERSONS + p] : DID_NOTHING;
        }

        // How many deeds of the persons that are counted (by bits) change.
        private int replay(World w, int waitIn, int idle, int counted) {
            int changed = 0;
            w.copyFrom(first);
            for (int t = 1; t <= turns; t++) {
                int entry = entryOf(t, 0);
                int deed = entry == DID_NOTHING || t == waitIn ? WAIT : entry & 511;
                play.playTurn(w, stage.canDo(w.truth, 0, deed) ? deed : WAIT, idle);
                for (int p = 0; p < PERSONS; p++) {
                    // Of one who did nothing these bits are those of no deed.
                    boolean same = (entryOf(t, p) & 511) == (play.entries[p] & 511);
                    changed += !same && (counted >> p & 1) != 0 ? 1 : 0;
                }
                if (acts[t] != 0 && teller.canAct(w, acts[t])) {
                    teller.act(w, acts[t]);
                }
            }
            return changed;
        }

        private int surprisedIn(int t) {
            int surprised = 0;
            for (int p = 1; p < PERSONS && t > 1; p++) {
                int entry = entryOf(t, p);
                if (entry != DID_NOTHING && partOf(entry, 0) != usualKind(t, p)) {
                    surprised++;
                }
            }
            return surprised;
        }

        private int usualKind(int t, int p) {
            int usual = WAIT;
            int most = 0;
            for (int kind = WAIT; kind < KINDS; kind++) {
                int times = 0;
                for (int s = 1; s < t; s++) {
                    times += entryOf(s, p) != DID_NOTHING && partOf(entryOf(s, p), 0) == kind ? 1 : 0;
                }
                if (times > most) {
                    most = times;
                    usual = kind;
                }
            }
            return usual;
        }

        private int firstWrong(Tape tape, int t, int n) {
            int place = 0;
            for (int p = 0; p < PERSONS; p++) {
                int entry = entryOf(t, p);
                for (int part = NONE; part < 3 && entry != DID_NOTHING; part++) {
                    int due = part == NONE ? p : partOf(entry, part);
                    if (place >= 4 * n || tape.number(place) != due) {
                        return place;
                    }
                    place++;
                }
            }
            return place < 4 * n ? place : NONE;
        }
    }
}
