import java.util.Arrays;
import java.util.List;
import java.util.function.Consumer;

/**
 * Asks every call with numbers that fit and numbers that don't, all with all, on a tale in each of its states, and
 * compares what BentTale and PlainTale answer, and how both stand behind it.
 */
public final class WildTest {
    private static final int LEAST = Integer.MIN_VALUE;
    private static final int GREATEST = Integer.MAX_VALUE;
    private static final int[][] NUMBERS = {
        {0},
        {LEAST, LEAST + 1, -65536, -1000, -64, -8, -3, -2, -1, 0, 1, 2, 3, 4, 5, 6, 7, 8, 9, 10, 11, 12, 13, 14, 15, 16,
            19, 20, 21, 22, 23, 24, 25, 29, 30, 31, 32, 33, 35, 36, 37, 60, 61, 62, 63, 64, 71, 127, 128, 255, 256,
            65535, 65536, 1 << 24, 1 << 28, 1 << 30, GREATEST - 1, GREATEST},
        {LEAST, LEAST + 1, -64, -8, -2, -1, 0, 1, 2, 3, 4, 5, 6, 7, 8, 9, 10, 13, 14, 20, 26, 60, 61, 64, 127, 128,
            1 << 28, 1 << 29, 1 << 30, (1 << 30) + 1, GREATEST - 1, GREATEST},
        {LEAST, -9, -2, -1, 0, 1, 2, 3, 4, 5, 6, 7, 8, 12, 13, 20, 40, 41, 64, 1 << 29, GREATEST},
        {LEAST, -2, -1, 0, 1, 2, 3, 7, 20, 21, 65535, 65536, GREATEST}
    };

    private interface Call {
        int of(Tale tale, int a, int b, int c, int d);
    }

    private final String state;
    private final Consumer<Tale> script;
    private Tale bent;
    private Tale plain;
    private int asked;
    private int wrong;

    private WildTest(String state, Consumer<Tale> script) {
        this.state = state;
        this.script = script;
    }

    public static void main(String[] args) {
        List<WildTest> tests = List.of(
            new WildTest("a new tale", tale -> { }),
            new WildTest("a told tale", WildTest::tell),
            new WildTest("a tale that began", tale -> goOn(tale, 1, 0)),
            new WildTest("a tale that goes on", tale -> goOn(tale, 1, 4)),
            new WildTest("a tale without the stranger", tale -> goOn(tale, 2, 7)),
            new WildTest("a tale that is over", tale -> goOn(tale, 1, 60)));
        int wrong = 0;
        int asked = 0;
        for (WildTest test : tests) {
            test.all();
            wrong += test.wrong;
            asked += test.asked;
        }
        System.out.println(wrong == 0 ? asked + " wild calls are answered alike" : wrong + " answers are not alike");
        if (wrong != 0) {
            System.exit(1);
        }
    }

    private static void tell(Tale tale) {
        for (int r = 0; r < 6; r++) {
            tale.door(r, r + 1);
        }
        int[] rooms = {1, 1, 4, 5};
        for (int p = 0; p < 4; p++) {
            tale.person(p, rooms[p]);
        }
        tale.thing(1, false);
        tale.thing(11, true);
        tale.hidden(4 + 8 + 64, true);
        tale.hidden(1 + 64, false);
        tale.hidden(1 + 64, false);
        tale.believe(2, false, 2, 2);
        tale.believe(3, true, 0, 3);
        tale.price(5, 3);
        wish(tale, 1, 2, "d0");
        wish(tale, 1, 9, "o20|i6&h0");
        wish(tale, 2, 5, "h2&!i0");
        wish(tale, 3, 1, "i3");
        law(tale, "eg...,60;ng55.");
        law(tale, "rg2..,t2..,2");
        law(tale, "nh...u");
        tale.feed('i' << 24 | '4' << 16, 0, 0, 0, 0);
        tale.feed(0, 0, 0, 0, 0);
    }

    // If the stranger does not go to room 2 at once, but takes something, it is hit.
    private static void goOn(Tale tale, int kind, int turns) {
        tell(tale);
        tale.begin();
        for (int t = 1; t <= turns; t++) {
            tale.turn(t == 1 ? kind : 0, t == 1 ? kind == 1 ? 2 : 0 : -1, -1);
            if (t == 3) {
                tale.settle(3, 0);
            }
            if (t == 5) {
                tale.shift(3, 4);
            }
        }
    }

    private static void wish(Tale tale, int p, int weight, String text) {
        feed(tale, text);
        tale.wish(p, weight, text.length());
    }

    private static void law(Tale tale, String text) {
        feed(tale, text);
        tale.law(text.length());
    }

    private static void feed(Tale tale, String text) {
        int[] words = new int[5];
        for (int i = 0; i < text.length(); i++) {
            words[i / 4] |= text.charAt(i) << 24 - i % 4 * 8;
        }
        tale.feed(words[0], words[1], words[2], words[3], words[4]);
    }

    private void all() {
        lasting("door", 2, (t, a, b, c, d) -> bit(t.door(a, b)));
        lasting("person", 2, (t, a, b, c, d) -> bit(t.person(a, b)));
        lasting("thing", 1, (t, a, b, c, d) -> t.thing(a, false));
        lasting("a weapon", 1, (t, a, b, c, d) -> t.thing(a, true));
        lasting("hidden", 1, (t, a, b, c, d) -> t.hidden(a, true));
        lasting("believe of a thing", 3, (t, a, b, c, d) -> bit(t.believe(a, false, b, c)));
        lasting("believe of a person", 3, (t, a, b, c, d) -> bit(t.believe(a, true, b, c)));
        lasting("price", 2, (t, a, b, c, d) -> bit(t.price(a, b)));
        lasting("feed", 1, (t, a, b, c, d) -> t.feed(a, b, c, d, a));
        lasting("wish", 3, (t, a, b, c, d) -> t.wish(a, b, c));
        lasting("law", 1, (t, a, b, c, d) -> t.law(a));
        lasting("begin", 0, (t, a, b, c, d) -> bit(t.begin()));
        lasting("turn", 3, (t, a, b, c, d) -> t.turn(a, b, c));
        lasting("settle", 2, (t, a, b, c, d) -> t.settle(a, b));
        lasting("shift", 2, (t, a, b, c, d) -> t.shift(a, b));
        lasting("check", 2, (t, a, b, c, d) -> t.check(a, b));
        start();
        asking("believes of a thing", 2, (t, a, b, c, d) -> t.believes(a, false, b));
        asking("believes of a person", 2, (t, a, b, c, d) -> t.believes(a, true, b));
        asking("holds", 2, (t, a, b, c, d) -> t.holds(a, b));
        asking("plan", 3, (t, a, b, c, d) -> t.plan(a, b, c));
        asking("wanted", 1, (t, a, b, c, d) -> t.wanted(a));
        asking("keeps", 1, (t, a, b, c, d) -> t.keeps(a));
        asking("broken", 1, (t, a, b, c, d) -> t.broken(a));
        asking("kept", 1, (t, a, b, c, d) -> t.kept(a));
        asking("loses", 0, (t, a, b, c, d) -> t.loses());
        asking("answer", 2, (t, a, b, c, d) -> t.answer(a, b));
        asking("otherwise", 1, (t, a, b, c, d) -> t.otherwise(a));
        asking("needless", 1, (t, a, b, c, d) -> t.needless(a));
        asking("made", 4, (t, a, b, c, d) -> t.made(a, b, c, d));
        asking("surprise", 1, (t, a, b, c, d) -> t.surprise(a));
        asking("did", 3, (t, a, b, c, d) -> t.did(a, b, c));
        asking("where", 1, (t, a, b, c, d) -> t.where(a));
        asking("lies", 1, (t, a, b, c, d) -> t.lies(a));
        asking("count", 1, (t, a, b, c, d) -> t.count(a));
        howItStands("asking");
    }

    private static int bit(boolean answer) {
        return answer ? 1 : 0;
    }

    private void start() {
        bent = new LongTale();
        plain = new PlainTale();
        script.accept(bent);
        script.accept(plain);
    }

    // A call that may change the tale: when it did, another tale is told.
    private void lasting(String name, int numbers, Call call) {
        start();
        sweep(name, numbers, call, true);
        howItStands(name);
    }

    private void asking(String name, int numbers, Call call) {
        sweep(name, numbers, call, false);
    }

    private void sweep(String name, int numbers, Call call, boolean lasting) {
        int[] row = NUMBERS[numbers];
        int many = 1;
        for (int i = 0; i < numbers; i++) {
            many *= row.length;
        }
        int[] at = new int[4];
        for (int n = 0; n < many; n++) {
            int rest = n;
            for (int i = numbers - 1; i >= 0; i--) {
                at[i] = row[rest % row.length];
                rest /= row.length;
            }
            int tapeBefore = plain.count(7);
            int due = call.of(plain, at[0], at[1], at[2], at[3]);
            int got = call.of(bent, at[0], at[1], at[2], at[3]);
            same(name + Arrays.toString(Arrays.copyOf(at, numbers)), got, due);
            boolean changed = due >= 0 && !(numbers > 0 && due == 0 && isYesOrNo(name)) || plain.count(7) != tapeBefore;
            if (lasting && changed) {
                howItStands(name);
                start();
            }
        }
    }

    private static boolean isYesOrNo(String name) {
        return name.equals("door") || name.equals("person") || name.equals("price") || name.startsWith("believe ");
    }

    private void same(String call, int got, int due) {
        asked++;
        if (got != due && wrong++ < 10) {
            System.out.println(state + ": " + call + " answered " + got + ", due is " + due);
        }
    }

    private void howItStands(String behind) {
        String when = "behind " + behind + ": ";
        for (int what = 0; what < 36; what++) {
            same(when + "count " + what, bent.count(what), plain.count(what));
        }
        for (int p = 0; p < 4; p++) {
            same(when + "where " + p, bent.where(p), plain.where(p));
            for (int i = 0; i < 5; i++) {
                same(when + p + " of thing " + i, bent.believes(p, false, i), plain.believes(p, false, i));
                same(when + p + " of person " + i, bent.believes(p, true, i), plain.believes(p, true, i));
            }
        }
        for (int i = 0; i < 6; i++) {
            same(when + "lies " + i, bent.lies(i), plain.lies(i));
            same(when + "keeps " + i, bent.keeps(i), plain.keeps(i));
            same(when + "broken " + i, bent.broken(i), plain.broken(i));
        }
    }
}
