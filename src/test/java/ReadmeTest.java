/** The calls that README.md shows answer what it says of them. */
public final class ReadmeTest extends ByHand {
    public static void main(String[] args) {
        BentTale tale = new BentTale();
        yes("door", tale.door(0, 1));
        yes("person", tale.person(1, 1));
        is("thing", tale.thing(0, false), 0);
        yes("believe", tale.believe(1, false, 0, 0));
        is("feed", tale.feed('h' << 24 | '0' << 16, 0, 0, 0, 0), 20);
        is("wish", tale.wish(1, 5, 2), 0);
        is("feed", tale.feed('e' << 24 | 't' << 16 | '1' << 8 | '0', '.' << 24 | ',' << 16 | '2' << 8, 0, 0, 0), 20);
        is("law", tale.law(7), 0);
        yes("begin", tale.begin());
        is("plan", tale.plan(1, 0, 0), 2);
        is("turn", tale.turn(0, BentTale.NONE, BentTale.NONE), 1);
        is("did", tale.did(1, 1, 0), 1);
        is("kept", tale.kept(1), 0);
        is("turn", tale.turn(0, BentTale.NONE, BentTale.NONE), 2);
        is("keeps", tale.keeps(0), 0);
        end("the readme is right");
    }
}
