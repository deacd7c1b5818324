import java.util.ArrayList;
import java.util.List;
import java.util.function.Predicate;
import java.util.function.ToIntFunction;

/**
 * A BentTale for tests that ask much: as an object is used for at most 512 calls, another one is told the same then,
 * and goes on in its place.
 */
final class LongTale implements Tale {
    private static final int MOST_CALLS = 512;

    private final List<ToIntFunction<BentTale>> told = new ArrayList<>();
    private final List<ToIntFunction<BentTale>> fed = new ArrayList<>();
    private BentTale tale = new BentTale();
    private int calls;

    private BentTale asked() {
        if (calls == MOST_CALLS) {
            tale = new BentTale();
            calls = told.size() + fed.size();
            told.forEach(call -> call.applyAsInt(tale));
            fed.forEach(call -> call.applyAsInt(tale));
            if (calls >= MOST_CALLS) {
                throw new IllegalStateException("too much is told to ask anything");
            }
        }
        calls++;
        return tale;
    }

    private int tell(ToIntFunction<BentTale> call) {
        int answer = call.applyAsInt(asked());
        if (answer >= 0) {
            told.add(call);
        }
        return answer;
    }

    private boolean tellIf(Predicate<BentTale> call) {
        boolean answer = call.test(asked());
        if (answer) {
            told.add(tale -> call.test(tale) ? 1 : 0);
        }
        return answer;
    }

    /** A text that is taken, or not: it is gone then with all that was fed. */
    private int tellText(ToIntFunction<BentTale> call) {
        int answer = call.applyAsInt(asked());
        if (answer >= 0) {
            told.addAll(fed);
            told.add(call);
        }
        if (answer != BentTale.NONE) {
            fed.clear();
        }
        return answer;
    }

    @Override
    public int feed(int a, int b, int c, int d, int e) {
        int answer = asked().feed(a, b, c, d, e);
        if (answer >= 0) {
            fed.add(tale -> tale.feed(a, b, c, d, e));
        }
        return answer;
    }

    @Override
    public int wish(int p, int weight, int n) {
        return tellText(tale -> tale.wish(p, weight, n));
    }

    @Override
    public int law(int n) {
        return tellText(tale -> tale.law(n));
    }

    @Override
    public int check(int t, int n) {
        int answer = asked().check(t, n);
        if (answer != -2) {
            fed.clear();
        }
        return answer;
    }

    @Override
    public boolean door(int a, int b) {
        return tellIf(tale -> tale.door(a, b));
    }

    @Override
    public boolean person(int p, int room) {
        return tellIf(tale -> tale.person(p, room));
    }

    @Override
    public int thing(int place, boolean weapon) {
        return tell(tale -> tale.thing(place, weapon));
    }

    @Override
    public int hidden(int set, boolean weapon) {
        return tell(tale -> tale.hidden(set, weapon));
    }

    @Override
    public boolean believe(int p, boolean person, int i, int place) {
        return tellIf(tale -> tale.believe(p, person, i, place));
    }

    @Override
    public boolean price(int kind, int n) {
        return tellIf(tale -> tale.price(kind, n));
    }

    @Override
    public boolean begin() {
        return tellIf(tale -> tale.begin());
    }

    @Override
    public int believes(int p, boolean person, int i) {
        return asked().believes(p, person, i);
    }

    @Override
    public int holds(int p, int k) {
        return asked().holds(p, k);
    }

    @Override
    public int plan(int p, int k, int what) {
        return asked().plan(p, k, what);
    }

    @Override
    public int wanted(int p) {
        return asked().wanted(p);
    }

    @Override
    public int turn(int kind, int x, int y) {
        return tell(tale -> tale.turn(kind, x, y));
    }

    @Override
    public int settle(int x, int room) {
        return tell(tale -> tale.settle(x, room));
    }

    @Override
    public int shift(int p, int room) {
        return tell(tale -> tale.shift(p, room));
    }

    @Override
    public int keeps(int i) {
        return asked().keeps(i);
    }

    @Override
    public int broken(int i) {
        return asked().broken(i);
    }

    @Override
    public int kept(int turns) {
        return asked().kept(turns);
    }

    @Override
    public int loses() {
        return asked().loses();
    }

    @Override
    public int answer(int turns, int what) {
        return asked().answer(turns, what);
    }

    @Override
    public int otherwise(int t) {
        return asked().otherwise(t);
    }

    @Override
    public int needless(int p) {
        return asked().needless(p);
    }

    @Override
    public int made(int sort, int seed, int turns, int what) {
        return asked().made(sort, seed, turns, what);
    }

    @Override
    public int surprise(int t) {
        return asked().surprise(t);
    }

    @Override
    public int did(int t, int p, int what) {
        return asked().did(t, p, what);
    }

    @Override
    public int where(int p) {
        return asked().where(p);
    }

    @Override
    public int lies(int x) {
        return asked().lies(x);
    }

    @Override
    public int count(int what) {
        return asked().count(what);
    }
}
