import java.util.List;

/**
 * Tells many tales, made by lot from fixed seeds, to BentTale and to PlainTale, and compares every answer.
 * Arguments, if any: the first seed and how many tales.
 */
public final class TwoTalesTest {
    private static final int TALES = 600;
    private static final int[] WILD = {Integer.MIN_VALUE, Integer.MAX_VALUE, -8, 7, 8, 9, 15, 16, 32, 63, 64, 71, 128,
        255, 256, 512, 1 << 24, 1 << 28, 1 << 30, (1 << 30) + 1, Integer.MIN_VALUE + 1, -64, -512};

    private final StringBuilder calls = new StringBuilder();
    private final Tale bent = new LongTale();
    private final PlainTale plain = new PlainTale();
    private final boolean lookFar;
    private long lot;
    private boolean search;
    private int wrong;

    private TwoTalesTest(long seed) {
        lot = seed * 7919 + 17;
        lookFar = any(2) == 0;
    }

    public static void main(String[] args) {
        long from = args.length > 0 ? Long.parseLong(args[0]) : 1;
        long many = args.length > 1 ? Long.parseLong(args[1]) : TALES;
        int wrong = 0;
        for (long seed = from; seed < from + many; seed++) {
            TwoTalesTest test = new TwoTalesTest(seed);
            test.run();
            if (test.wrong > 0 && wrong++ < 3) {
                System.out.println("seed " + seed + ":\n" + test.calls);
            }
        }
        System.out.println(wrong == 0 ? many + " tales are told alike" : wrong + " tales are not told alike");
        if (wrong != 0) {
            System.exit(1);
        }
    }

    private int any(int n) {
        lot = lot * 6364136223846793005L + 1442695040888963407L;
        return (int) ((lot >>> 33) % n);
    }

    /** Mostly one of those from one to the other, but now and then one just beside them, or a wild one. */
    private int odd(int from, int to) {
        if (any(30) > 0) {
            return from + any(to - from + 1);
        }
        return any(2) == 0 ? from - 2 + any(to - from + 5) : WILD[any(WILD.length)];
    }

    private void same(String call, int got, int due) {
        if (wrong == 0) {
            calls.append("  ").append(call).append(" = ").append(got);
            if (got != due) {
                calls.append("  BUT DUE ").append(due);
            }
            calls.append('\n');
        }
        wrong += got == due ? 0 : 1;
    }

    private void same(String call, boolean got, boolean due) {
        same(call, got ? 1 : 0, due ? 1 : 0);
    }

    private void run() {
        search = any(6) == 0;
        if (search) {
            tellSearch();
        } else {
            tellAll();
        }
        queries();
        same("begin()", bent.begin(), plain.begin());
        int turns = any(12) == 0 ? 62 : 1 + any(9);
        for (int t = 0; t < turns && wrong == 0; t++) {
            if (search && turns < 20 || any(turns > 20 ? 10 : 2) == 0) {
                queries();
            }
            oneTurn();
            if (any(3) == 0) {
                oneAct();
            }
        }
        queries();
        all();
    }

    // A folk comes along a row of rooms to seek what is hidden; the teller can have it found, or not.
    private void tellSearch() {
        int rooms = 3 + any(4);
        for (int r = 1; r < rooms; r++) {
            same("door(" + r + ", " + (r - 1) + ")", bent.door(r, r - 1), plain.door(r, r - 1));
        }
        for (int p = 0; p < 4; p++) {
            int room = any(3) == 0 ? any(rooms) : p == 1 ? 0 : 6;
            same("person(" + p + ", " + room + ")", bent.person(p, room), plain.person(p, room));
        }
        for (int x = 0; x < 2; x++) {
            int goal = 1 + any(rooms - 1);
            int set = 1 << goal | 1 << any(7) | 1 << any(rooms);
            int p = 1 + any(2);
            same("hidden(" + set + ", true)", bent.hidden(set, true), plain.hidden(set, true));
            same("believe(" + p + ", false, " + x + ", " + goal + ")", bent.believe(p, false, x, goal),
                plain.believe(p, false, x, goal));
            feed("h" + x);
            same("wish(" + p + ", 5, 2)", bent.wish(p, 5, 2), plain.wish(p, 5, 2));
            String law = any(2) == 0 ? "ntP" + x + "." : "etP" + x + ".," + (goal + any(3));
            if (any(2) == 0) {
                law = any(2) == 0 ? "rtP..,gP" + any(rooms) + ".,1" : "agP" + any(rooms) + ".,tP" + x + ".";
            }
            law = law.replace('P', (char) ('0' + p));
            feed(law);
            same("law(" + law.length() + ")", bent.law(law.length()), plain.law(law.length()));
        }
    }

    // Laws that tell of what would come to pass are those that the teller must care for.
    private List<PlainTale.Event> likely = List.of();

    private void tellAll() {
        int rooms = 2 + any(6);
        for (int i = 0; i < rooms + any(3); i++) {
            int a = i < rooms - 1 ? i + 1 : odd(0, rooms - 1);
            int b = i < rooms - 1 ? any(i + 1) : odd(0, rooms - 1);
            same("door(" + a + ", " + b + ")", bent.door(a, b), plain.door(a, b));
        }
        for (int p = 0; p < 4; p++) {
            int room = odd(0, rooms - 1);
            int who = odd(p, p);
            same("person(" + who + ", " + room + ")", bent.person(who, room), plain.person(who, room));
        }
        boolean quiet = any(4) == 0;
        if (quiet) {
            // With the stranger far away much depends on what the teller does.
            same("person(0, 6)", bent.person(0, 6), plain.person(0, 6));
        }
        int things = any(6);
        for (int i = 0; i < things; i++) {
            boolean weapon = any(3) == 0;
            if (any(quiet ? 2 : 3) == 0) {
                int set = odd(0, (1 << rooms) - 1);
                same("hidden(" + set + ", " + weapon + ")", bent.hidden(set, weapon), plain.hidden(set, weapon));
            } else {
                int place = any(3) == 0 ? odd(10, 13) : odd(0, rooms - 1);
                same("thing(" + place + ", " + weapon + ")", bent.thing(place, weapon), plain.thing(place, weapon));
            }
        }
        for (int i = quiet ? 30 : any(30); i > 0; i--) {
            oneBelief(rooms);
        }
        for (int i = any(6); i > 0; i--) {
            int kind = odd(1, 5);
            int n = odd(1, any(2) == 0 ? 3 : 9);
            same("price(" + kind + ", " + n + ")", bent.price(kind, n), plain.price(kind, n));
        }
        for (int i = 1 + any(7); i > 0; i--) {
            StringBuilder text = new StringBuilder();
            wishText(text, any(3), rooms);
            feed(spoilt(text, "hidlo0123456789!()|&"));
            int p = odd(1, 3);
            int weight = odd(1, 9);
            int n = text.length() + (any(30) == 0 ? any(3) - 1 : 0);
            same("wish(" + p + ", " + weight + ", " + n + ")", bent.wish(p, weight, n), plain.wish(p, weight, n));
        }
        likely = any(3) > 0 ? plain.forecast(6) : likely;
        for (int i = any(5); i > 0; i--) {
            StringBuilder text = any(2) == 0 ? likelyLaw() : lawText();
            if (text.length() == 0) {
                continue;
            }
            feed(spoilt(text, "nare.gtdvhl0123456789,;u"));
            int n = text.length() + (any(30) == 0 ? any(3) - 1 : 0);
            same("law(" + n + ")", bent.law(n), plain.law(n));
        }
    }

    private void oneBelief(int rooms) {
        int p = odd(1, 3);
        boolean person = any(3) == 0;
        int i = odd(0, person ? 3 : Math.max(1, plain.count(2)) - 1);
        int place = !person && any(4) == 0 ? odd(10, 13) : odd(-1, rooms - 1);
        if (any(3) > 0) {
            int real = person ? plain.where(i) : plain.lies(i);
            place = real == 20 ? roomOf(plain.count(20 + i)) : real;
        }
        same("believe(" + p + ", " + person + ", " + i + ", " + place + ")", bent.believe(p, person, i, place),
            plain.believe(p, person, i, place));
    }

    private int roomOf(int set) {
        int room = any(7);
        for (int i = 0; i < 7 && (set >> room & 1) == 0; i++) {
            room = (room + 1) % 7;
        }
        return room;
    }

    private void wishText(StringBuilder text, int depth, int rooms) {
        int parts = depth == 0 ? 1 : 1 + any(2);
        for (int i = 0; i < parts; i++) {
            text.append(i == 0 ? "" : any(3) > 0 ? "&" : "|");
            int sort = any(8);
            if (depth > 0 && sort == 0) {
                text.append('(');
                wishText(text, depth - 1, rooms);
                text.append(')');
            } else if (depth > 0 && sort == 1) {
                text.append("!(");
                wishText(text, depth - 1, rooms);
                text.append(')');
            } else {
                text.append(any(7) == 0 ? "!" : "");
                atom(text, rooms);
            }
        }
        if (text.length() > 40) {
            text.setLength(40);
        }
    }

    private void atom(StringBuilder text, int rooms) {
        switch (any(5)) {
            case 0:
                text.append('h').append(thing());
                break;
            case 1:
                text.append('i').append(any(rooms));
                break;
            case 2:
                text.append('d').append(any(4));
                break;
            case 3:
                text.append('l').append(thing()).append(any(rooms));
                break;
            default:
                text.append('o').append(any(4)).append(thing());
        }
    }

    private int thing() {
        return any(15) == 0 ? any(5) : any(Math.max(1, plain.count(2)));
    }

    private StringBuilder likelyLaw() {
        StringBuilder text = new StringBuilder();
        for (int tries = 0; tries < 10 && text.length() == 0 && likely.size() > 0; tries++) {
            PlainTale.Event e = likely.get(any(likely.size()));
            if (e.turn > 1) {
                boolean not = any(2) == 0;
                text.append(not ? 'n' : 'e').append(" gtdvhl".charAt(e.kind)).append(e.who).append(e.x);
                text.append(e.y < 0 ? "." : "" + e.y).append(not ? "" : "," + (e.turn + any(2)));
            }
        }
        return text;
    }

    private StringBuilder lawText() {
        StringBuilder text = new StringBuilder();
        for (int i = 1 + any(any(10) == 0 ? 5 : 2); i > 0; i--) {
            text.append(text.length() == 0 ? "" : ";");
            char sort = "nare".charAt(any(4));
            text.append(sort);
            event(text);
            if (sort == 'a' || sort == 'r') {
                text.append(',');
                event(text);
            }
            if (sort == 'r' || sort == 'e') {
                text.append(',').append(any(10) == 0 ? any(100) : any(sort == 'r' ? 4 : 12));
            }
        }
        if (text.length() > 60) {
            text.setLength(60);
        }
        return text;
    }

    private void event(StringBuilder text) {
        if (likely.size() > 0 && any(3) > 0) {
            PlainTale.Event e = likely.get(any(likely.size()));
            text.append(" gtdvhl".charAt(e.kind)).append(any(3) > 0 ? "" + e.who : ".");
            text.append(any(2) > 0 ? "" + e.x : ".").append(e.y >= 0 && any(2) > 0 ? "" + e.y : ".");
            text.append(e.unseen && any(2) == 0 ? "u" : "");
            return;
        }
        text.append("ggttdvhl".charAt(any(8)));
        int dots = any(4) == 0 ? 1 : 3;
        for (int i = 0; i < 3; i++) {
            text.append(any(5) >= (i == 2 ? 1 : dots) ? "." : "" + any(i == 1 ? 5 : 4));
        }
        text.append(any(5) == 0 ? "u" : "");
    }

    private StringBuilder spoilt(StringBuilder text, String signs) {
        if (any(8) == 0 && text.length() > 0) {
            text.setCharAt(any(text.length()), signs.charAt(any(signs.length())));
        }
        if (any(30) == 0 && text.length() < 40) {
            text.insert(any(text.length() + 1), signs.charAt(any(signs.length())));
        }
        return text;
    }

    private void feed(CharSequence text) {
        int[] words = new int[15];
        for (int i = 0; i < text.length(); i++) {
            words[i / 4] |= text.charAt(i) << 24 - i % 4 * 8;
        }
        for (int i = 0; i < Math.max(1, text.length()); i += 20) {
            int w = i / 4;
            same("feed of '" + text + "'", bent.feed(words[w], words[w + 1], words[w + 2], words[w + 3], words[w + 4]),
                plain.feed(words[w], words[w + 1], words[w + 2], words[w + 3], words[w + 4]));
        }
    }

    private void oneTurn() {
        int kind = odd(0, 6);
        int x = odd(-1, 6);
        int y = odd(-1, 3);
        if (any(12) > 0) {
            List<int[]> can = plain.deedsNow();
            int[] deed = can.get(any(can.size()));
            for (int tries = 0; deed[0] == 6 && tries < 3; tries++) {
                deed = can.get(any(can.size()));
            }
            kind = deed[0];
            x = deed[1];
            y = deed[2];
        }
        same("turn(" + kind + ", " + x + ", " + y + ")", bent.turn(kind, x, y), plain.turn(kind, x, y));
    }

    private void oneAct() {
        int room = odd(0, 6);
        boolean settle = any(2) == 0;
        int i = settle ? odd(0, 4) : odd(1, 3);
        for (int tries = 0; tries < 40 && !plain.canActNow(settle ? 1 : 2, i, room); tries++) {
            room = any(7);
            i = settle ? any(5) : 1 + any(3);
        }
        if (settle) {
            same("settle(" + i + ", " + room + ")", bent.settle(i, room), plain.settle(i, room));
        } else {
            same("shift(" + i + ", " + room + ")", bent.shift(i, room), plain.shift(i, room));
        }
    }

    private void queries() {
        for (int p = -1; p < 5; p++) {
            same("where(" + p + ")", bent.where(p), plain.where(p));
            same("wanted(" + p + ")", bent.wanted(p), plain.wanted(p));
            for (int i = -1; i < 6; i++) {
                same("believes(" + p + ", true, " + i + ")", bent.believes(p, true, i), plain.believes(p, true, i));
                same("believes(" + p + ", false, " + i + ")", bent.believes(p, false, i), plain.believes(p, false, i));
            }
            for (int k = -1; k < 4; k++) {
                same("holds(" + p + ", " + k + ")", bent.holds(p, k), plain.holds(p, k));
                for (int what = -3; what < 16; what++) {
                    same("plan(" + p + ", " + k + ", " + what + ")", bent.plan(p, k, what), plain.plan(p, k, what));
                }
            }
        }
        for (int i = -1; i < 7; i++) {
            same("lies(" + i + ")", bent.lies(i), plain.lies(i));
            same("keeps(" + i + ")", bent.keeps(i), plain.keeps(i));
            same("broken(" + i + ")", bent.broken(i), plain.broken(i));
        }
        for (int what = -1; what < 40; what++) {
            same("count(" + what + ")", bent.count(what), plain.count(what));
        }
        ahead();
        back();
    }

    private void ahead() {
        int most = search || lookFar && any(4) == 0 ? 2 : 1;
        for (int turns = -1; turns <= most; turns++) {
            same("kept(" + turns + ")", bent.kept(turns), plain.kept(turns));
            for (int what = -1; what < 5; what++) {
                same("answer(" + turns + ", " + what + ")", bent.answer(turns, what), plain.answer(turns, what));
            }
        }
        if (most == 2) {
            same("loses()", bent.loses(), plain.loses());
        }
        int seed = odd(0, 65535);
        int turns = odd(1, 20);
        for (int sort = -1; sort < 4; sort++) {
            for (int what = -1; what < 4; what++) {
                same("made(" + sort + ", " + seed + ", " + turns + ", " + what + ")",
                    bent.made(sort, seed, turns, what), plain.made(sort, seed, turns, what));
            }
        }
    }

    private void back() {
        int now = plain.count(0);
        int t = odd(1, Math.max(1, now));
        same("otherwise(" + t + ")", bent.otherwise(t), plain.otherwise(t));
        same("surprise(" + t + ")", bent.surprise(t), plain.surprise(t));
        for (int p = 0; p < 5; p++) {
            same("needless(" + p + ")", bent.needless(p), plain.needless(p));
        }
        for (int p = -1; p < 5; p++) {
            for (int what = -1; what < 6; what++) {
                same("did(" + t + ", " + p + ", " + what + ")", bent.did(t, p, what), plain.did(t, p, what));
            }
        }
        checkOf(t);
    }

    private void checkOf(int t) {
        int[] numbers = new int[20];
        int n = 0;
        for (int p = 0; p < 4; p++) {
            if (plain.did(t, p, 0) != BentTale.NONE || any(10) == 0) {
                int[] four = {p, plain.did(t, p, 0), plain.did(t, p, 1), plain.did(t, p, 2)};
                four[any(4)] += any(12) == 0 ? 1 : 0;
                System.arraycopy(four, 0, numbers, 4 * n, 4);
                n++;
            }
        }
        for (int i = 0; i < 20; i += 5) {
            same("feed(" + numbers[i] + ", " + numbers[i + 1] + ", " + numbers[i + 2] + ", " + numbers[i + 3] + ", "
                + numbers[i + 4] + ")",
                bent.feed(numbers[i], numbers[i + 1], numbers[i + 2], numbers[i + 3], numbers[i + 4]),
                plain.feed(numbers[i], numbers[i + 1], numbers[i + 2], numbers[i + 3], numbers[i + 4]));
        }
        int fours = any(4) == 0 ? any(7) - 1 : n;
        same("check(" + t + ", " + fours + ")", bent.check(t, fours), plain.check(t, fours));
        same("count(7)", bent.count(7), plain.count(7));
    }

    private void all() {
        int now = plain.count(0);
        for (int t = -1; t < now + 2; t++) {
            same("otherwise(" + t + ")", bent.otherwise(t), plain.otherwise(t));
            same("surprise(" + t + ")", bent.surprise(t), plain.surprise(t));
            for (int p = 0; p < 4; p++) {
                same("did(" + t + ", " + p + ", 0)", bent.did(t, p, 0), plain.did(t, p, 0));
            }
        }
        same("loses()", lookFar ? bent.loses() : 0, lookFar ? plain.loses() : 0);
        same("begin()", bent.begin(), plain.begin());
    }
}
