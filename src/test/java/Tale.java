/** The face of BentTale, so that one test can tell the same to several tales. */
interface Tale {
    boolean door(int a, int b);

    boolean person(int p, int room);

    int thing(int place, boolean weapon);

    int hidden(int set, boolean weapon);

    boolean believe(int p, boolean person, int i, int place);

    boolean price(int kind, int n);

    int feed(int a, int b, int c, int d, int e);

    int wish(int p, int weight, int n);

    int law(int n);

    boolean begin();

    int believes(int p, boolean person, int i);

    int holds(int p, int k);

    int plan(int p, int k, int what);

    int wanted(int p);

    int turn(int kind, int x, int y);

    int settle(int x, int room);

    int shift(int p, int room);

    int keeps(int i);

    int broken(int i);

    int kept(int turns);

    int loses();

    int answer(int turns, int what);

    int otherwise(int t);

    int needless(int p);

    int made(int sort, int seed, int turns, int what);

    int surprise(int t);

    int did(int t, int p, int what);

    int check(int t, int n);

    int where(int p);

    int lies(int x);

    int count(int what);
}
