/** Each promise of the document by hand: ordinary calls, the edges that it names, and wrong ones. */
public final class PromisesTest extends ByHand {
    public static void main(String[] args) {
        newObject();
        doors();
        persons();
        things();
        hiddenThings();
        beliefsTold();
        prices();
        tape();
        wishesRead();
        wishFaults();
        lawsRead();
        lawFaults();
        beginning();
        beliefs();
        looking();
        hittingIsBelieved();
        telling();
        wishesHold();
        plans();
        plansAskedForNothing();
        plansOfTheDead();
        plansOfLeastPrice();
        wantedOnes();
        turns();
        deeds();
        deadStranger();
        settling();
        shifting();
        lawsKept();
        lawsOwedInTime();
        lawsUnseen();
        keptWhatever();
        answersBySettling();
        answersOfLeastPrice(false);
        answersOfLeastPrice(true);
        losing();
        otherwiseAndNeedless();
        madeStrangers();
        cruelStrangers();
        surprises();
        whatWasDone();
        checks();
        places();
        counts();
        end("all promises hold");
    }

    // Promise 1
    private static void newObject() {
        BentTale tale = new BentTale();
        for (int p = 0; p < 4; p++) {
            is("new where", tale.where(p), 0);
        }
        for (int what = 0; what <= 8; what++) {
            is("new count " + what, tale.count(what), 0);
        }
        for (int p = 1; p < 4; p++) {
            is("new wishes", tale.count(10 + p), 0);
            is("new belief", tale.believes(p, true, 0), NONE);
        }
        is("new lies", tale.lies(0), NONE);
        is("new keeps", tale.keeps(0), NONE);
        yes("no doors", tale.door(5, 6));
        is("NONE", NONE, -1);
    }

    // Promise 2
    private static void doors() {
        BentTale tale = new BentTale();
        yes("door", tale.door(0, 6));
        no("door again", tale.door(0, 6));
        no("door back", tale.door(6, 0));
        no("door to itself", tale.door(3, 3));
        no("door 7", tale.door(1, 7));
        no("door -1", tale.door(-1, 1));
        no("door far", tale.door(Integer.MAX_VALUE, Integer.MIN_VALUE));
        yes("door 1 6", tale.door(1, 6));
        tale.begin();
        no("door begun", tale.door(1, 2));
        is("through the door", tale.turn(1, 6, NONE), 1);
        is("through the other", tale.turn(1, 1, NONE), 2);
        is("no door", tale.turn(1, 0, NONE), -2);
    }

    // Promise 3
    private static void persons() {
        BentTale tale = new BentTale();
        yes("person 0", tale.person(0, 6));
        yes("person 3", tale.person(3, 0));
        yes("person 3 again", tale.person(3, 2));
        no("person 4", tale.person(4, 0));
        no("person -1", tale.person(-1, 0));
        no("person in 7", tale.person(1, 7));
        no("person in -1", tale.person(1, -1));
        is("where 0", tale.where(0), 6);
        is("where 3", tale.where(3), 2);
        is("where 1", tale.where(1), 0);
        tale.begin();
        no("person begun", tale.person(1, 1));
    }

    // Promise 4
    private static void things() {
        BentTale tale = new BentTale();
        is("thing 7", tale.thing(7, false), NONE);
        is("thing 9", tale.thing(9, false), NONE);
        is("thing 14", tale.thing(14, false), NONE);
        is("thing -1", tale.thing(-1, false), NONE);
        is("thing least", tale.thing(Integer.MIN_VALUE, false), NONE);
        is("thing in 0", tale.thing(0, true), 0);
        is("thing in 6", tale.thing(6, false), 1);
        is("thing of 0", tale.thing(10, false), 2);
        is("thing of 3", tale.thing(13, true), 3);
        is("the fifth", tale.hidden(3, true), 4);
        is("a sixth", tale.thing(0, true), NONE);
        is("lies 1", tale.lies(1), 6);
        is("lies 2", tale.lies(2), 10);
        is("lies 3", tale.lies(3), 13);
        is("count 2", tale.count(2), 5);
        BentTale other = new BentTale();
        other.begin();
        is("thing begun", other.thing(0, false), NONE);
    }

    // Promise 5
    private static void hiddenThings() {
        BentTale tale = row();
        is("hidden 0", tale.hidden(0, false), NONE);
        is("hidden in one", tale.hidden(64, false), NONE);
        is("hidden 128", tale.hidden(128 + 3, false), NONE);
        is("hidden -1", tale.hidden(-1, false), NONE);
        is("hidden in all", tale.hidden(127, false), 0);
        is("hidden in two", tale.hidden(6, true), 1);
        is("lies hidden", tale.lies(0), 20);
        is("its set", tale.count(20), 127);
        is("the other set", tale.count(21), 6);
        for (int x = 2; x < 5; x++) {
            is("hidden more", tale.hidden(3, false), x);
        }
        is("a sixth", tale.hidden(3, false), NONE);
        tale.begin();
        is("set looked for", tale.count(20), 127 - 1 - 16 - 32 - 64);
        is("set not looked for", tale.count(21), 6);
        is("one room was left", tale.lies(2), 1);
        is("no set any more", tale.count(22), NONE);
        BentTale other = new BentTale();
        other.begin();
        is("hidden begun", other.hidden(3, false), NONE);
    }

    // Promise 6
    private static void beliefsTold() {
        BentTale tale = row();
        tale.thing(0, false);
        yes("believe a room", tale.believe(1, false, 0, 6));
        is("believed", tale.believes(1, false, 0), 6);
        yes("believe held", tale.believe(1, false, 0, 13));
        is("believed held", tale.believes(1, false, 0), 13);
        yes("believe held by the stranger", tale.believe(1, false, 0, 10));
        no("held by itself", tale.believe(1, false, 0, 11));
        no("place 7", tale.believe(1, false, 0, 7));
        no("place 14", tale.believe(1, false, 0, 14));
        no("place -2", tale.believe(1, false, 0, -2));
        is("still", tale.believes(1, false, 0), 10);
        yes("not known", tale.believe(1, false, 0, NONE));
        is("is not known", tale.believes(1, false, 0), NONE);
        no("no such thing", tale.believe(1, false, 1, 0));
        no("thing -1", tale.believe(1, false, -1, 0));
        no("the stranger", tale.believe(0, false, 0, 0));
        no("folk 4", tale.believe(4, false, 0, 0));
        yes("a person", tale.believe(2, true, 0, 3));
        is("a person believed", tale.believes(2, true, 0), 3);
        is("the thing is another", tale.believes(2, false, 0), NONE);
        no("itself", tale.believe(2, true, 2, 3));
        no("person 4", tale.believe(2, true, 4, 3));
        no("a person is not held", tale.believe(2, true, 0, 10));
        no("nor dead", tale.believe(2, true, 0, 7));
        yes("a person not known", tale.believe(2, true, 0, NONE));
        tale.begin();
        no("believe begun", tale.believe(1, false, 0, 1));
    }

    // Promise 7
    private static void prices() {
        BentTale tale = row();
        yes("price", tale.price(1, 9));
        yes("price of HIT", tale.price(5, 1));
        no("price of WAIT", tale.price(0, 1));
        no("price of TELL", tale.price(6, 1));
        no("price 0", tale.price(1, 0));
        no("price 10", tale.price(1, 10));
        wish(tale, 1, 1, "i2");
        tale.begin();
        is("two ways of 9", tale.plan(1, 0, NONE), 18);
        no("price begun", tale.price(1, 1));
    }

    // Promise 8
    private static void tape() {
        BentTale tale = row();
        for (int i = 1; i <= 20; i++) {
            is("feed", tale.feed(i, 0, 0, 0, 0), 20 * i);
        }
        is("too much", tale.feed(0, 0, 0, 0, 0), NONE);
        is("the tape stays", tale.count(7), 400);
        is("highest byte first", tale.wish(1, 1, 1), -1000);
        is("empty", tale.count(7), 0);
        tale.feed('i' << 24 | '2' << 16, 0, 0, 0, 0);
        is("two bytes", tale.wish(1, 1, 2), 0);
        tale.feed('i', '2' << 24, 0, 0, 0);
        is("the lowest byte last", tale.wish(1, 1, 5), -1000);
    }

    // Promise 9
    private static void wishesRead() {
        BentTale tale = row();
        feed(tale, "h0");
        is("wish of the stranger", tale.wish(0, 1, 2), NONE);
        is("wish of 4", tale.wish(4, 1, 2), NONE);
        is("weight 0", tale.wish(1, 0, 2), NONE);
        is("weight 10", tale.wish(1, 10, 2), NONE);
        is("no bytes", tale.wish(1, 1, 0), NONE);
        is("41 bytes", tale.wish(1, 1, 41), NONE);
        is("more than are there", tale.wish(1, 1, 21), NONE);
        is("the tape stays", tale.count(7), 20);
        is("the first", tale.wish(1, 9, 2), 0);
        is("the tape is empty", tale.count(7), 0);
        is("every atom", wish(tale, 1, 1, "h4&i6|!d3&(l46|o34)&!!h0"), 1);
        is("40 bytes", wish(tale, 1, 1, "h0|h1|h2|h3|h4|h0|h1|h2|h3|h4|h0|h1|!l00"), 2);
        feed(tale, "h0");
        is("a fourth", tale.wish(1, 1, 2), NONE);
        is("the tape stays again", tale.count(7), 20);
        is("of another", tale.wish(2, 1, 2), 0);
        is("counted", tale.count(11), 3);
        is("counted, too", tale.count(12), 1);
        feed(tale, "h0");
        tale.begin();
        is("wish begun", tale.wish(2, 1, 2), NONE);
    }

    // Promise 9: faults
    private static void wishFaults() {
        BentTale tale = row();
        String[] faults = {
            "x -1000", "h -1001", "h5 -3001", "hx -1001", "i7 -3001", "d4 -3001", "l5 -3001", "l47 -3002", "l4 -1002",
            "o4 -3001", "o35 -3002", "o3 -1002", "h0h0 -1002", "h0& -1003", "h0| -1003", "&h0 -1000", "(h0 -1003",
            "(h0)h0 -1004", "h0) -1002", "() -1001", "! -1001", "!) -1001", "((((((h0)))))) 0", "(((((((h0 -5006",
            "!!!!!!h0 0", "!!!!!!!h0 -5006", "((((((!h0 -5006", "!h0&((((((h0)))))) 0", "!(h0)&!((((((h0)))))) -5012",
            "h0  -1002", "H0 -1000", "h0||h1 -1003", "(h5) -3002", "i9x -3001", "((((((( -5006", "((((((x -1006",
            "h0|h5 -3004", "h0&h5 -3004", "h0|(h5) -3005", "!h5 -3002", "h0&!(i0|i7) -3009"
        };
        int p = 1;
        for (String fault : faults) {
            String text = fault.substring(0, fault.lastIndexOf(' '));
            int due = Integer.parseInt(fault.substring(text.length() + 1));
            is("wish " + text, wish(tale, p, 1, text), due);
            p = due == 0 ? p % 3 + 1 : p;
            is("the tape is empty behind " + text, tale.count(7), 0);
        }
        is("faulty ones do not stay", tale.count(11), 1);
    }

    // Promise 10
    private static void lawsRead() {
        BentTale tale = row();
        feed(tale, "ng...");
        is("no bytes", tale.law(0), NONE);
        is("61 bytes", tale.law(61), NONE);
        is("more than are there", tale.law(21), NONE);
        is("the tape stays", tale.count(7), 20);
        is("the first", tale.law(5), 0);
        is("the tape is empty", tale.count(7), 0);
        is("60 bytes", law(tale, "rg666u,t000u,99;rd123u,v456u,00;rh...u,l...u,10;ag...u,t...u"), 1);
        is("clauses", tale.count(31), 4);
        is("one clause", tale.count(30), 1);
        for (int i = 2; i < 6; i++) {
            is("more", law(tale, "ng..."), i);
        }
        feed(tale, "ng...");
        is("a seventh", tale.law(5), NONE);
        is("the tape stays again", tale.count(7), 20);
        BentTale other = row();
        feed(other, "ng...");
        other.begin();
        is("law begun", other.law(5), NONE);
    }

    // Promise 10: faults
    private static void lawFaults() {
        BentTale tale = row();
        String[] faults = {
            "x -1000", "n -1001", "nx -1001", "ng -1002", "ng7 -3002", "ng..8 -3004", "ng.. -1004", "ng...v -1005",
            "ng...uu -1006", "ng...; -1006", "ng..., -1005", "ag... -1005", "ag...; -1005", "ag..., -1006",
            "ag...,g..7 -3009", "rg...,t... -1010", "rg...,t..., -1011", "rg...,t...,x -1011", "rg...,t...,123 -2013",
            "eg..., -1006", "eg...,1; -1008", "eg...,1, -1007", "eg...,12u -1008", "eg...,007 -2008",
            "ng...;ng...;ng...;ng...;n -4024", "ng...;ng...;ng...;ng...;x -1024", "ng...;ng...;ng...;ng...; -1024",
            "ng...;ng...;ng...;ng...n -1023", "ng..9 -3004", "n. -1001", "ngu -1002"
        };
        for (String fault : faults) {
            String text = fault.substring(0, fault.lastIndexOf(' '));
            int due = Integer.parseInt(fault.substring(text.length() + 1));
            is("law " + text, law(tale, text), due);
            is("the tape is empty behind " + text, tale.count(7), 0);
        }
        is("faulty ones do not stay", tale.count(3), 0);
        is("four clauses stand", law(tale, "ng...;ng...;ng...;ng..."), 0);
    }

    // Promise 11
    private static void beginning() {
        BentTale tale = row();
        tale.person(2, 4);
        tale.thing(4, false);
        tale.hidden(16 + 4, false);
        is("not begun", tale.count(1), 0);
        is("no belief ahead", tale.believes(1, false, 0), NONE);
        yes("begin", tale.begin());
        is("begun", tale.count(1), 1);
        no("begin again", tale.begin());
        is("it looked about", tale.believes(1, false, 0), 4);
        is("and saw who is there", tale.believes(1, true, 2), 4);
        is("not who is elsewhere", tale.believes(1, true, 0), NONE);
        is("the hidden one was looked for", tale.lies(1), 2);
    }

    // Promise 12
    private static void beliefs() {
        BentTale tale = row();
        tale.thing(11, false);
        tale.thing(12, false);
        is("of itself ahead", tale.believes(1, true, 1), 4);
        is("what it holds ahead", tale.believes(1, false, 0), 11);
        is("what another holds", tale.believes(1, false, 1), NONE);
        is("the stranger believes nothing", tale.believes(0, true, 1), NONE);
        is("folk 4", tale.believes(4, true, 1), NONE);
        is("person 4", tale.believes(1, true, 4), NONE);
        is("person -1", tale.believes(1, true, -1), NONE);
        is("thing 2", tale.believes(1, false, 2), NONE);
        tale.begin();
        is("what it holds", tale.believes(1, false, 0), 11);
    }

    // Promise 12: looking about behind events and acts
    private static void looking() {
        BentTale tale = row();
        tale.person(1, 1);
        tale.thing(0, false);
        tale.thing(10, false);
        tale.believe(1, false, 0, 1);
        tale.believe(1, true, 0, 1);
        tale.believe(1, true, 2, 2);
        tale.believe(1, false, 1, 12);
        tale.begin();
        is("it does not lie there", tale.believes(1, false, 0), NONE);
        is("it is not there", tale.believes(1, true, 0), NONE);
        is("elsewhere it may be", tale.believes(1, true, 2), 2);
        is("held by one elsewhere", tale.believes(1, false, 1), 12);
        tale.turn(2, 0, NONE);
        is("not seen", tale.believes(1, false, 0), NONE);
        tale.turn(1, 1, NONE);
        is("it came", tale.believes(1, true, 0), 1);
        is("and holds it", tale.believes(1, false, 0), 10);
        is("and holds the other", tale.believes(1, false, 1), 10);
        tale.turn(4, 0, 1);
        is("it was given", tale.believes(1, false, 0), 11);
        tale.turn(1, 0, NONE);
        is("it went", tale.believes(1, true, 0), NONE);
        is("it holds it still, it thinks", tale.believes(1, false, 1), 10);
        is("a shift", tale.shift(1, 2), 3);
        is("who is not there", tale.believes(1, true, 2), NONE);
        is("of itself", tale.believes(1, true, 1), 2);
        tale.turn(3, 1, NONE);
        tale.turn(1, 1, NONE);
        tale.turn(1, 2, NONE);
        is("held by one who is there, but is not so", tale.believes(1, false, 1), NONE);
    }

    // Promise 12: who is hit
    private static void hittingIsBelieved() {
        BentTale tale = row();
        for (int p = 1; p < 3; p++) {
            tale.person(p, 0);
        }
        tale.thing(10, true);
        tale.thing(12, false);
        tale.believe(3, true, 2, 0);
        tale.begin();
        is("hit", tale.turn(5, 2, NONE), 1);
        is("it is dead", tale.where(2), 7);
        is("who was there knows", tale.believes(1, true, 2), 7);
        is("who was not does not", tale.believes(3, true, 2), 0);
        is("what it held lies there", tale.lies(1), 0);
        is("and is seen there", tale.believes(1, false, 1), 0);
        is("the dead one of itself", tale.believes(2, true, 2), 7);
        is("the dead one of another", tale.believes(2, true, 1), 0);
        tale.turn(2, 1, NONE);
        is("the dead do not look", tale.believes(2, true, 0), 0);
        BentTale other = row();
        other.person(1, 1);
        other.person(2, 1);
        other.thing(11, true);
        wish(other, 1, 1, "d2");
        other.begin();
        pause(other);
        is("folk hits", other.did(1, 1, 0), 5);
        is("who hits believes it", other.believes(1, true, 2), 7);
        is("its wish holds", other.holds(1, 0), 1);
    }

    // Promise 16: TELL
    private static void telling() {
        BentTale tale = row();
        tale.person(1, 0);
        tale.thing(6, false);
        tale.hidden(4 + 8, false);
        tale.thing(13, false);
        tale.believe(1, false, 1, 2);
        tale.begin();
        is("tell where it lies", tale.turn(6, 0, 1), 1);
        is("told", tale.believes(1, false, 0), 6);
        is("tell of the hidden one", tale.turn(6, 1, 1), 2);
        is("told that it is not known", tale.believes(1, false, 1), NONE);
        is("tell who holds it", tale.turn(6, 2, 1), 3);
        is("told who", tale.believes(1, false, 2), 13);
        is("tell itself", tale.turn(6, 0, 0), -2);
        is("tell one elsewhere", tale.turn(6, 0, 2), -2);
        is("tell of no thing", tale.turn(6, 3, 1), -2);
        is("tell nobody", tale.turn(6, 0, NONE), -2);
        is("it was seen by whom it was told", tale.did(1, 0, 3), 2);
    }

    // Promise 13
    private static void wishesHold() {
        BentTale tale = row();
        tale.thing(11, false);
        tale.thing(0, false);
        tale.believe(1, false, 1, 3);
        tale.believe(1, true, 0, 1);
        String[][] texts = {
            {"h0", "i4", "l13"}, {"d0", "h1", "!o10|!l13"}, {"o00|i5", "!i0&(h0|i4)&!!!d2", "!!d3|!!h4"},
            {"!(h0|d3)", "!(d3|h0)", "!(h0&i4)"}, {"!(h0&d3)", "!(d3&h0)", "!(d3|i5)&d2"}
        };
        is("holds ahead", tale.holds(1, 0), NONE);
        for (int k = 0; k < 3; k++) {
            wish(tale, 1, 1, texts[0][k]);
        }
        tale.begin();
        for (int k = 0; k < 3; k++) {
            is(texts[0][k], tale.holds(1, k), 1);
        }
        is("wish 3", tale.holds(1, 3), NONE);
        is("wish -1", tale.holds(1, -1), NONE);
        is("the stranger", tale.holds(0, 0), NONE);
        is("folk 4", tale.holds(4, 0), NONE);
        is("folk 2 has none", tale.holds(2, 0), NONE);
        int[][] due = {{}, {0, 0, 0}, {0, 1, 0}, {0, 0, 0}, {1, 1, 0}};
        for (int row = 1; row < 5; row++) {
            BentTale other = row();
            other.thing(11, false);
            other.thing(0, false);
            other.believe(1, false, 1, 3);
            for (int k = 0; k < 3; k++) {
                wish(other, 1, 1, texts[row][k]);
            }
            other.begin();
            for (int k = 0; k < 3; k++) {
                is(texts[row][k], other.holds(1, k), due[row][k]);
            }
        }
    }

    // Promise 14
    private static void plans() {
        BentTale tale = row();
        tale.person(1, 1);
        tale.thing(2, true);
        tale.believe(1, false, 0, 2);
        tale.believe(1, true, 2, 3);
        wish(tale, 1, 1, "d2");
        wish(tale, 1, 1, "i1");
        wish(tale, 1, 1, "i6");
        is("plan ahead", tale.plan(1, 0, 0), NONE);
        tale.begin();
        is("how many", tale.plan(1, 0, 0), 4);
        is("prices", tale.plan(1, 0, NONE), 4);
        int[] due = {1, 2, -3, 2, 0, -3, 1, 3, -3, 5, 2, -3};
        for (int i = 0; i < 12; i++) {
            is("plan " + (i + 1), tale.plan(1, 0, i + 1), due[i]);
        }
        is("it holds", tale.plan(1, 1, 0), NONE);
        is("five deeds are too many", tale.plan(1, 2, 0), -2);
        is("and prices of none", tale.plan(1, 2, NONE), -2);
        is("no such wish", tale.plan(1, 3, 0), NONE);
        is("no such folk", tale.plan(0, 0, 0), NONE);
        is("none of 2", tale.plan(2, 0, 0), NONE);
        pause(tale);
        pause(tale);
        is("fewer are left", tale.plan(1, 0, 0), 2);
        is("none such", tale.plan(1, 0, 7), -3);
        pause(tale);
        is("nobody is there, as it sees", tale.plan(1, 0, 0), -2);
    }

    // Promise 14: a what that names nothing of a plan is told behind all else
    private static void plansAskedForNothing() {
        BentTale tale = row();
        tale.person(1, 1);
        tale.person(2, 6);
        tale.thing(11, true);
        wish(tale, 1, 1, "i4");
        wish(tale, 1, 1, "i0&d3");
        wish(tale, 1, 1, "i1");
        wish(tale, 3, 1, "i5");
        int[] whats = {Integer.MIN_VALUE, Integer.MIN_VALUE + 1, -1000, -4, -3, -2, 13, 14, 15, 1000,
            Integer.MAX_VALUE - 1, Integer.MAX_VALUE};
        for (int what : whats) {
            is("plan ahead, what " + what, tale.plan(1, 0, what), NONE);
        }
        tale.begin();
        is("there is a plan", tale.plan(1, 0, 0), 3);
        is("there is none", tale.plan(1, 1, 0), -2);
        is("there is a plan of one deed", tale.plan(3, 0, 0), 1);
        for (int what : whats) {
            is("with a plan, what " + what, tale.plan(1, 0, what), -3);
            is("with a plan of one deed, what " + what, tale.plan(3, 0, what), -3);
            is("without one, what " + what, tale.plan(1, 1, what), -2);
            is("of what holds, what " + what, tale.plan(1, 2, what), NONE);
            is("of no wish, what " + what, tale.plan(1, 3, what), NONE);
            is("of wish -1, what " + what, tale.plan(1, -1, what), NONE);
            is("of a folk without wishes, what " + what, tale.plan(2, 0, what), NONE);
            is("of the stranger, what " + what, tale.plan(0, 0, what), NONE);
            is("of no person, what " + what, tale.plan(4, 0, what), NONE);
        }
        for (int what = 10; what <= 12; what++) {
            is("a fourth deed that this plan has not, what " + what, tale.plan(1, 0, what), -3);
        }
    }

    // Promise 14: of a dead folk nothing is told, whatever is asked
    private static void plansOfTheDead() {
        BentTale tale = row();
        tale.thing(10, true);
        tale.person(1, 0);
        wish(tale, 1, 1, "i1");
        tale.begin();
        is("one deed", tale.plan(1, 0, 0), 1);
        is("no second one", tale.plan(1, 0, 4), -3);
        is("no fifth one", tale.plan(1, 0, 13), -3);
        is("below NONE", tale.plan(1, 0, -2), -3);
        tale.turn(5, 1, NONE);
        for (int what : new int[] {Integer.MIN_VALUE, -2, NONE, 0, 1, 12, 13, Integer.MAX_VALUE}) {
            is("of a dead folk, what " + what, tale.plan(1, 0, what), NONE);
        }
    }

    // Promise 14: which of several plans
    private static void plansOfLeastPrice() {
        BentTale tale = row();
        tale.person(1, 0);
        tale.person(2, 0);
        tale.door(0, 2);
        tale.door(0, 3);
        tale.thing(11, false);
        tale.price(3, 5);
        wish(tale, 1, 1, "!h0");
        wish(tale, 1, 1, "i4");
        tale.begin();
        is("giving is cheaper", tale.plan(1, 0, 1), 4);
        is("the lowest person", tale.plan(1, 0, 3), 0);
        is("its price", tale.plan(1, 0, NONE), 1);
        is("the short way", tale.plan(1, 1, 0), 2);
        is("by room 3", tale.plan(1, 1, 2), 3);
        BentTale other = row();
        other.person(1, 0);
        other.person(2, 0);
        other.thing(11, true);
        other.price(3, 2);
        other.price(4, 1);
        other.price(5, 9);
        wish(other, 1, 1, "l00");
        wish(other, 1, 1, "i2&l00");
        wish(other, 1, 1, "!l00&!h0&!o20");
        other.begin();
        is("dropping is cheaper than giving and hitting", other.plan(1, 0, 1), 3);
        is("first GO", other.plan(1, 1, 1), 3);
        is("then GO", other.plan(1, 1, 4), 1);
        is("not ahead of the end", other.plan(1, 2, 0), 1);
        is("given to the stranger", other.plan(1, 2, 3), 0);
    }

    // Promise 15
    private static void wantedOnes() {
        BentTale tale = row();
        wish(tale, 1, 3, "i5");
        wish(tale, 1, 7, "h0");
        wish(tale, 1, 3, "i3");
        wish(tale, 2, 2, "i4");
        wish(tale, 2, 2, "i6");
        is("wanted ahead", tale.wanted(1), NONE);
        tale.begin();
        is("the heaviest has no plan", tale.wanted(1), 0);
        is("of like ones the lowest", tale.wanted(2), 0);
        is("nothing", tale.wanted(3), -2);
        is("the stranger", tale.wanted(0), NONE);
        is("folk 4", tale.wanted(4), NONE);
        pause(tale);
        is("now the other", tale.wanted(1), 2);
        is("did it", tale.did(1, 1, 1), 5);
        is("for the wish", tale.did(1, 1, 4), 0);
    }

    // Promise 16
    private static void turns() {
        BentTale tale = row();
        is("turn ahead", pause(tale), NONE);
        tale.begin();
        is("no such kind", tale.turn(7, NONE, NONE), -2);
        is("kind -1", tale.turn(-1, NONE, NONE), -2);
        is("WAIT with x", tale.turn(0, 0, NONE), -2);
        is("WAIT with y", tale.turn(0, NONE, 0), -2);
        is("GO with y", tale.turn(1, 1, 0), -2);
        is("GO to 7", tale.turn(1, 7, NONE), -2);
        is("GO to -1", tale.turn(1, NONE, NONE), -2);
        is("TAKE nothing", tale.turn(2, 0, NONE), -2);
        is("TAKE 5", tale.turn(2, 5, NONE), -2);
        is("HIT 4", tale.turn(5, 4, NONE), -2);
        is("a kind far off", tale.turn(64 + 1, 1, NONE), -2);
        is("nothing is over", tale.count(0), 0);
        for (int t = 1; t <= 60; t++) {
            is("turn", pause(tale), t);
        }
        is("60 are over", pause(tale), NONE);
        is("60 are over, whatever", tale.turn(7, 0, 0), NONE);
        is("count", tale.count(0), 60);
    }

    // Promise 16: what deeds need and do
    private static void deeds() {
        BentTale tale = row();
        tale.person(1, 0);
        tale.thing(0, false);
        tale.thing(1, true);
        tale.begin();
        is("TAKE elsewhere", tale.turn(2, 1, NONE), -2);
        is("TAKE", tale.turn(2, 0, NONE), 1);
        is("held", tale.lies(0), 10);
        is("TAKE what is held", tale.turn(2, 0, NONE), -2);
        is("kind 7 of what is held", tale.turn(7, 0, NONE), -2);
        is("kind -1 of what is held", tale.turn(-1, 0, NONE), -2);
        is("GIVE to itself", tale.turn(4, 0, 0), -2);
        is("GIVE to one elsewhere", tale.turn(4, 0, 2), -2);
        is("HIT without a weapon", tale.turn(5, 1, NONE), -2);
        is("GIVE", tale.turn(4, 0, 1), 2);
        is("given", tale.lies(0), 11);
        is("DROP what another holds", tale.turn(3, 0, NONE), -2);
        is("GO", tale.turn(1, 1, NONE), 3);
        is("TAKE the weapon", tale.turn(2, 1, NONE), 4);
        is("HIT one elsewhere", tale.turn(5, 1, NONE), -2);
        is("GO back", tale.turn(1, 0, NONE), 5);
        is("HIT itself", tale.turn(5, 0, NONE), -2);
        is("HIT", tale.turn(5, 1, NONE), 6);
        is("HIT the dead", tale.turn(5, 1, NONE), -2);
        is("what it held lies there", tale.lies(0), 0);
        is("GIVE to the dead", tale.turn(4, 1, 1), -2);
        is("DROP", tale.turn(3, 1, NONE), 7);
        is("dropped", tale.lies(1), 0);
    }

    private static void deadStranger() {
        BentTale tale = row();
        tale.person(1, 0);
        tale.thing(11, true);
        tale.thing(10, false);
        wish(tale, 1, 1, "d0");
        tale.begin();
        is("GO away too late", pause(tale), 1);
        is("the stranger is dead", tale.where(0), 7);
        is("it waited ahead of it", tale.did(1, 0, 0), 0);
        is("what it held", tale.lies(1), 0);
        is("GO", tale.turn(1, 1, NONE), -2);
        is("TAKE", tale.turn(2, 1, NONE), -2);
        is("WAIT", pause(tale), 2);
        is("it was dead", tale.did(2, 0, 0), NONE);
        is("one is dead", tale.made(1, 5, 3, 1), 1);
        is("shifts are free", tale.shift(1, 1), 3);
    }

    // Promise 17
    private static void settling() {
        BentTale tale = row();
        tale.hidden(1 + 2 + 4 + 8, false);
        tale.hidden(2 + 4, false);
        tale.thing(2, false);
        tale.begin();
        is("ahead of a turn", tale.settle(0, 1), NONE);
        pause(tale);
        is("where the stranger is", tale.settle(0, 0), NONE);
        is("not in its set", tale.settle(1, 3), NONE);
        is("where no room is", tale.settle(0, 7), NONE);
        is("room -1", tale.settle(0, -1), NONE);
        is("not hidden", tale.settle(2, 2), NONE);
        is("no such thing", tale.settle(3, 1), NONE);
        is("thing -1", tale.settle(-1, 1), NONE);
        is("thing 8", tale.settle(8, 1), NONE);
        is("thing far off", tale.settle(1 << 29, 1), NONE);
        is("room 8", tale.settle(0, 8 + 2), NONE);
        is("settle", tale.settle(0, 3), 2);
        is("there it lies", tale.lies(0), 3);
        is("acted already", tale.settle(1, 1), NONE);
        is("neither a shift", tale.shift(1, 3), NONE);
        pause(tale);
        is("the second costs more", tale.settle(1, 2), 4);
        is("pushing", tale.count(4), 6);
        is("settles", tale.count(5), 2);
        is("no set", tale.count(21), NONE);
    }

    // Promise 18
    private static void shifting() {
        BentTale tale = row();
        tale.hidden(8 + 2, false);
        tale.begin();
        is("ahead of a turn", tale.shift(1, 3), NONE);
        pause(tale);
        is("no door", tale.shift(1, 2), NONE);
        is("the same room", tale.shift(1, 4), NONE);
        is("the stranger", tale.shift(0, 1), NONE);
        is("folk 4", tale.shift(4, 1), NONE);
        is("room 7", tale.shift(3, 7), NONE);
        is("folk 9", tale.shift(9, 3), NONE);
        is("folk far off", tale.shift((1 << 29) + 1, 3), NONE);
        is("room 8", tale.shift(0, 8 + 3), NONE);
        is("shift", tale.shift(1, 3), 3);
        is("there it is", tale.where(1), 3);
        is("and the hidden one is looked for", tale.lies(0), 1);
        is("it is no event", tale.count(8), 0);
        is("acted already", tale.shift(2, 4), NONE);
        tale.turn(1, 1, NONE);
        is("the second", tale.shift(1, 2), 6);
        pause(tale);
        is("to the stranger", tale.shift(1, 1), NONE);
        is("another", tale.shift(2, 4), 9);
        tale.turn(1, 2, NONE);
        is("from the stranger", tale.shift(1, 3), NONE);
        is("pushing", tale.count(4), 18);
        is("shifts", tale.count(6), 3);
    }

    // Promises 19, 20
    private static void lawsKept() {
        BentTale tale = row();
        tale.thing(0, false);
        law(tale, "ng02.");
        law(tale, "at00.,g...");
        law(tale, "ag01.,g01.");
        law(tale, "ng06.;ng01.");
        law(tale, "nv...;rg...,d...,9");
        tale.begin();
        is("kept", tale.keeps(0), 0);
        is("not broken", tale.broken(0), NONE);
        is("no such law", tale.keeps(5), NONE);
        is("law -1", tale.keeps(-1), NONE);
        is("no such law broken", tale.broken(5), NONE);
        tale.turn(2, 0, NONE);
        tale.turn(1, 1, NONE);
        is("another room", tale.keeps(0), 0);
        is("one was ahead", tale.keeps(1), 0);
        is("only this one itself", tale.keeps(2), 2);
        is("broken in", tale.broken(2), 2);
        is("by its second clause", tale.keeps(3), 2);
        is("owed", tale.keeps(4), 1);
        tale.turn(1, 2, NONE);
        is("broken", tale.keeps(0), 2);
        is("in turn 3", tale.broken(0), 3);
        is("for good", tale.broken(2), 2);
        tale.turn(3, 0, NONE);
        is("it came", tale.keeps(4), 0);
    }

    // Promises 19, 20: r and e
    private static void lawsOwedInTime() {
        BentTale tale = row();
        tale.thing(0, false);
        law(tale, "rt0..,d0..,1");
        law(tale, "rt0..,d0..,2");
        law(tale, "ed...,3");
        law(tale, "ed...,2");
        law(tale, "rt0..,t0..,0");
        law(tale, "rg...,g1..,0");
        tale.begin();
        is("nothing is owed", tale.keeps(0), 0);
        is("e is owed", tale.keeps(2), 1);
        tale.turn(2, 0, NONE);
        is("r is owed", tale.keeps(0), 1);
        is("in its turn", tale.keeps(4), 2);
        is("at once", tale.broken(4), 1);
        pause(tale);
        is("too late", tale.keeps(0), 2);
        is("broken in turn 2", tale.broken(0), 2);
        is("there is time", tale.keeps(1), 1);
        is("e too late", tale.broken(3), 2);
        tale.turn(3, 0, NONE);
        is("in time", tale.keeps(1), 0);
        is("e in time", tale.keeps(2), 0);
        is("nobody went", tale.keeps(5), 0);
        tale.turn(1, 1, NONE);
        is("none behind it", tale.broken(5), 4);
        BentTale other = row();
        law(other, "rg0..,g1..,0");
        law(other, "eg...,0");
        wish(other, 1, 1, "i3");
        other.begin();
        is("e of turn 0", other.keeps(1), 1);
        other.turn(1, 1, NONE);
        is("one came behind it", other.keeps(0), 0);
        is("turn 0 is over", other.keeps(1), 2);
    }

    // Promise 19: patterns
    private static void lawsUnseen() {
        BentTale tale = row();
        tale.person(1, 1);
        tale.thing(0, false);
        law(tale, "nt...u");
        law(tale, "ng...u");
        law(tale, "nv001");
        law(tale, "nv.12");
        law(tale, "ng..0");
        tale.begin();
        tale.turn(2, 0, NONE);
        is("nobody saw it", tale.keeps(0), 2);
        tale.turn(1, 1, NONE);
        is("it was seen where it came to", tale.keeps(1), 0);
        tale.turn(4, 0, 1);
        is("given", tale.keeps(2), 2);
        is("another", tale.keeps(3), 0);
        is("GO has no y", tale.keeps(4), 0);
    }

    // Promises 21 and 23: by a shift
    private static void keptWhatever() {
        BentTale tale = new BentTale();
        tale.door(1, 2);
        tale.door(2, 3);
        tale.person(1, 1);
        tale.person(2, 5);
        tale.person(3, 6);
        wish(tale, 1, 1, "i3");
        law(tale, "ng13.");
        is("kept ahead", tale.kept(0), NONE);
        is("answer ahead", tale.answer(1, 0), NONE);
        tale.begin();
        is("kept 0", tale.kept(0), 1);
        is("kept 1", tale.kept(1), 1);
        is("kept 2", tale.kept(2), 1);
        is("kept 3", tale.kept(3), NONE);
        is("kept -1", tale.kept(-1), NONE);
        is("none is needed yet", tale.answer(2, 0), 0);
        is("whom", tale.answer(2, 1), NONE);
        is("where to", tale.answer(2, 2), NONE);
        is("its price", tale.answer(2, 3), 0);
        pause(tale);
        is("an act is needed", tale.answer(1, 0), 2);
        is("folk 1", tale.answer(1, 1), 1);
        is("goes to the lowest room", tale.answer(1, 2), 1);
        is("for 3", tale.answer(1, 3), 3);
        is("what 4", tale.answer(1, 4), NONE);
        is("what -1", tale.answer(1, -1), NONE);
        is("turns 0", tale.answer(0, 0), NONE);
        is("turns 3", tale.answer(3, 0), NONE);
        is("asking changes nothing", tale.where(1), 2);
        is("pushed nobody", tale.count(4), 0);
        is("another act", tale.shift(1, 1), 3);
        is("then none more", tale.answer(1, 0), 0);
        pause(tale);
        pause(tale);
        is("it was not pushed", tale.keeps(0), 2);
        is("kept no more", tale.kept(0), 0);
        is("there is none", tale.answer(1, 0), -2);
        is("none at all", tale.answer(2, 3), -2);
        is("wrong ones go ahead", tale.answer(2, 4), NONE);
    }

    // Promise 23: by settling what is looked for
    private static void answersBySettling() {
        BentTale tale = row();
        tale.person(0, 6);
        tale.person(1, 0);
        tale.person(2, 6);
        tale.hidden(4 + 2 + 8 + 32, false);
        tale.believe(1, false, 0, 2);
        wish(tale, 1, 1, "h0");
        law(tale, "et10.,3");
        tale.begin();
        pause(tale);
        is("it seeks", tale.where(1), 1);
        is("kept", tale.kept(2), 1);
        is("settle", tale.answer(2, 0), 1);
        is("the thing", tale.answer(2, 1), 0);
        is("where it is sought", tale.answer(2, 2), 2);
        is("for 2", tale.answer(2, 3), 2);
        is("one turn is no matter", tale.answer(1, 0), 0);
        is("not two without it", tale.loses(), 3);
        tale.settle(0, 5);
        is("now it can't be found", tale.kept(2), 0);
        is("in two", tale.loses(), 2);
        pause(tale);
        pause(tale);
        is("it was not found", tale.broken(0), 3);
    }

    // Promise 23: a folk that goes by 3 and 4 to 5 shall take something; a thing can be settled in its way, or it can
    // be shifted to another one.
    private static void answersOfLeastPrice(boolean settledBefore) {
        BentTale tale = new BentTale();
        tale.door(1, 3);
        tale.door(3, 4);
        tale.door(4, 5);
        tale.door(4, 2);
        int[] rooms = {6, 1, 6, 6};
        for (int p = 0; p < 4; p++) {
            tale.person(p, rooms[p]);
        }
        tale.hidden(32 + 1, false);
        tale.thing(2, false);
        tale.hidden(4 + 1, false);
        wish(tale, 1, 5, "h0|h1");
        wish(tale, 1, 3, "i5");
        law(tale, "et1..,4");
        tale.begin();
        pause(tale);
        if (settledBefore) {
            is("settled before", tale.settle(2, 0), 2);
        }
        pause(tale);
        is("it is in its way", tale.where(1), 4);
        is("which is cheaper", tale.answer(2, 0), settledBefore ? 2 : 1);
        is("whom or what", tale.answer(2, 1), settledBefore ? 1 : 0);
        is("where", tale.answer(2, 2), settledBefore ? 2 : 5);
        is("price", tale.answer(2, 3), settledBefore ? 3 : 2);
    }

    // Promise 22
    private static void losing() {
        BentTale tale = row();
        tale.thing(0, false);
        law(tale, "nd0..");
        is("loses ahead", tale.loses(), NONE);
        tale.begin();
        is("take and drop", tale.loses(), 2);
        tale.turn(2, 0, NONE);
        is("drop", tale.loses(), 1);
        tale.turn(3, 0, NONE);
        is("it did", tale.loses(), 0);
        BentTale other = row();
        law(other, "nh...");
        other.begin();
        is("not in two", other.loses(), 3);
        BentTale told = row();
        told.person(1, 0);
        told.thing(0, false);
        law(told, "rl...,d...,0");
        told.begin();
        is("it can tell what is known", told.loses(), 1);
    }

    // Promises 24, 25
    private static void otherwiseAndNeedless() {
        BentTale tale = row();
        tale.person(1, 0);
        tale.person(2, 1);
        tale.person(3, 6);
        tale.thing(0, true);
        tale.thing(3, false);
        wish(tale, 1, 1, "h1");
        wish(tale, 3, 1, "i5");
        is("otherwise ahead", tale.otherwise(1), NONE);
        is("needless ahead", tale.needless(1), NONE);
        tale.begin();
        is("no turns", tale.needless(1), 1);
        tale.turn(6, 1, 1);
        tale.turn(2, 0, NONE);
        tale.turn(1, 1, NONE);
        is("it goes", tale.did(1, 1, 1), 1);
        is("untold, it has no plan", tale.otherwise(1), 3);
        is("not told later", tale.otherwise(2), 0);
        is("turn 0", tale.otherwise(0), NONE);
        is("turn 4", tale.otherwise(4), NONE);
        tale.turn(1, 2, NONE);
        tale.turn(1, 3, NONE);
        tale.turn(5, 1, NONE);
        is("it is hit", tale.where(1), 7);
        is("without it there is none to hit", tale.needless(1), 0);
        is("needless 0", tale.needless(0), NONE);
        is("needless 4", tale.needless(4), NONE);
        is("needless 3", tale.needless(3), 1);
        is("2 did nothing", tale.needless(2), 1);
        hitOrNot();
        withTheTeller();
    }

    private static void hitOrNot() {
        BentTale tale = row();
        tale.person(1, 0);
        tale.thing(10, true);
        wish(tale, 1, 1, "i4");
        tale.begin();
        tale.turn(5, 1, NONE);
        pause(tale);
        is("dead, it did none", tale.did(1, 1, 0), NONE);
        is("alive, it would go in both", tale.otherwise(1), 2);
        is("nothing came of it", tale.otherwise(2), 0);
        is("hit or not, it did nothing", tale.needless(1), 1);
        BentTale other = row();
        other.person(1, 0);
        other.thing(11, false);
        wish(other, 1, 1, "o00");
        other.begin();
        pause(other);
        other.turn(3, 0, NONE);
        is("given, dropped and taken", other.lies(0), 11);
        is("without it the stranger has nothing to drop", other.needless(1), 0);
    }

    private static void withTheTeller() {
        BentTale tale = row();
        tale.person(1, 3);
        tale.person(2, 6);
        wish(tale, 1, 1, "i5");
        wish(tale, 2, 1, "i6");
        tale.begin();
        tale.turn(1, 1, NONE);
        is("pushed back", tale.shift(1, 3), 3);
        pause(tale);
        pause(tale);
        is("it goes again", tale.did(2, 1, 1), 4);
        is("the teller does the same", tale.otherwise(1), 0);
        is("it goes in the next, too", tale.did(3, 1, 1), 5);
        is("needless", tale.needless(1), 1);
    }

    // Promise 26
    private static void madeStrangers() {
        BentTale tale = row();
        tale.person(1, 3);
        tale.person(2, 3);
        tale.thing(11, true);
        wish(tale, 1, 1, "d2&i6");
        law(tale, "nh...");
        law(tale, "eg10.,2");
        is("made ahead", tale.made(0, 0, 1, 0), NONE);
        tale.begin();
        is("meek", tale.made(0, 0, 20, 0), 1);
        is("one dead", tale.made(0, 0, 20, 1), 1);
        is("hit and three ways", tale.made(0, 0, 20, 2), 4);
        is("one turn", tale.made(0, 0, 1, 2), 1);
        is("nothing of it is so", tale.where(2), 3);
        is("no event", tale.count(8), 0);
        is("sort 3", tale.made(3, 0, 1, 0), NONE);
        is("sort -1", tale.made(-1, 0, 1, 0), NONE);
        is("seed -1", tale.made(1, -1, 1, 0), NONE);
        is("seed 65536", tale.made(1, 65536, 1, 0), NONE);
        is("greatest seed", tale.made(0, 65535, 1, 2), 1);
        is("turns 0", tale.made(0, 0, 0, 0), NONE);
        is("turns 21", tale.made(0, 0, 21, 0), NONE);
        is("what 3", tale.made(0, 0, 1, 3), NONE);
        is("what -1", tale.made(0, 0, 1, -1), NONE);
        pause(tale);
        is("one is broken already", tale.made(0, 0, 5, 0), 0);
        is("the dead stay", tale.made(0, 0, 1, 1), 1);
        BentTale other = row();
        law(other, "eg10.,2");
        other.begin();
        is("too late in 2", other.made(0, 0, 20, 0), 2);
        is("not in 1", other.made(0, 0, 1, 0), NONE);
        pause(other);
        is("counted from now on", other.made(0, 0, 20, 0), 1);
    }

    // Promise 26: by lot, and cruel
    private static void cruelStrangers() {
        BentTale tale = row();
        tale.thing(0, false);
        law(tale, "nt...");
        tale.begin();
        // It can WAIT, GO 1, TAKE 0; of seed 1 X is 39022, and modulo 3 that is 1. In room 1 it can WAIT, GO 0, GO 2;
        // X is 61087 then, and modulo 3 that is 1, too.
        is("mad", tale.made(1, 1, 1, 2), 1);
        is("it went, it took not", tale.made(1, 1, 2, 0), NONE);
        is("twice", tale.made(1, 1, 2, 2), 2);
        // Of seed 2 these are 64195 and 7896, modulo 3 1 and 0; of seed 3 23832: 0; of seed 5 8642: 2.
        is("mad goes, then waits", tale.made(1, 2, 2, 2), 1);
        is("mad waits", tale.made(1, 3, 1, 2), 0);
        is("mad takes", tale.made(1, 5, 1, 0), 1);
        is("cruel as mad", tale.made(2, 5, 1, 0), 1);
        BentTale armed = row();
        armed.person(1, 0);
        armed.thing(10, true);
        armed.begin();
        // Behind the HIT it can WAIT, GO 1, DROP 0.
        is("X goes on with a HIT", armed.made(2, 2, 2, 2), 1);
        BentTale other = row();
        other.person(1, 0);
        other.person(3, 0);
        other.thing(10, true);
        other.begin();
        is("cruel hits one", other.made(2, 0, 1, 1), 1);
        is("cruel hits two", other.made(2, 0, 2, 1), 2);
        is("two events", other.made(2, 0, 2, 2), 2);
        is("meek hits none", other.made(0, 0, 20, 1), 0);
    }

    // Promise 27
    private static void surprises() {
        BentTale tale = row();
        tale.person(1, 0);
        tale.thing(2, false);
        tale.believe(1, false, 0, 2);
        wish(tale, 1, 1, "h0");
        tale.begin();
        is("surprise ahead", tale.surprise(1), NONE);
        for (int t = 1; t <= 6; t++) {
            pause(tale);
        }
        int[] due = {NONE, 0, 0, 1, 1, 1, 0, NONE};
        for (int t = 0; t < 8; t++) {
            is("surprise of " + t, tale.surprise(t), due[t]);
        }
        pause(tale);
        is("of like ones the lowest", tale.surprise(7), 0);
    }

    // Promise 28
    private static void whatWasDone() {
        BentTale tale = row();
        tale.person(1, 0);
        tale.person(2, 1);
        tale.thing(0, false);
        wish(tale, 2, 4, "h4");
        wish(tale, 2, 3, "i2");
        tale.begin();
        tale.turn(1, 1, NONE);
        is("GO", tale.did(1, 0, 0), 1);
        is("to 1", tale.did(1, 0, 1), 1);
        is("no y", tale.did(1, 0, 2), NONE);
        is("seen here and there", tale.did(1, 0, 3), 2 + 4);
        is("of no wish", tale.did(1, 0, 4), NONE);
        is("WAIT", tale.did(1, 1, 0), 0);
        is("WAIT has no x", tale.did(1, 1, 1), NONE);
        is("WAIT is not seen", tale.did(1, 1, 3), NONE);
        is("WAIT for none", tale.did(1, 1, 4), NONE);
        is("folk GO", tale.did(1, 2, 1), 2);
        is("for wish 1", tale.did(1, 2, 4), 1);
        is("seen by the stranger", tale.did(1, 2, 3), 1);
        is("what 5", tale.did(1, 0, 5), NONE);
        is("what -1", tale.did(1, 0, -1), NONE);
        is("person 4", tale.did(1, 4, 0), NONE);
        is("person -1", tale.did(1, -1, 0), NONE);
        is("turn 0", tale.did(0, 0, 0), NONE);
        is("turn 2", tale.did(2, 0, 0), NONE);
        tale.turn(1, 0, NONE);
        tale.turn(2, 0, NONE);
        tale.turn(4, 0, 1);
        is("GIVE", tale.did(4, 0, 0), 4);
        is("y", tale.did(4, 0, 2), 1);
        is("who gets it sees it", tale.did(4, 0, 3), 2);
        tale.turn(1, 1, NONE);
        tale.turn(1, 2, NONE);
        is("one is left, one is there", tale.did(6, 0, 3), 4);
        BentTale other = row();
        other.begin();
        other.turn(1, 1, NONE);
        is("nobody saw it", other.did(1, 0, 3), 0);
    }

    // Promise 29
    private static void checks() {
        BentTale tale = row();
        tale.person(1, 0);
        tale.thing(10, true);
        wish(tale, 3, 1, "i5");
        tale.begin();
        tale.turn(5, 1, NONE);
        int[] right = {0, 5, 1, -1, 2, 0, -1, -1, 3, 1, 5, -1};
        is("right", checked(tale, right, 3), NONE);
        is("empty then", tale.count(7), 0);
        for (int i = 0; i < 12; i++) {
            int[] off = right.clone();
            off[i] += i % 2 == 0 ? 1 : -256;
            is("wrong at " + i, checked(tale, off, 3), i);
        }
        int[] high = right.clone();
        high[0] = 1 << 24;
        is("wrong in the highest byte", checked(tale, high, 3), 0);
        is("one is lacking", checked(tale, right, 2), 8);
        is("all are lacking", checked(tale, right, 0), 0);
        is("empty, too", tale.count(7), 0);
        is("one too many", checked(tale, new int[] {0, 5, 1, -1, 2, 0, -1, -1, 3, 1, 5, -1, 3, 1, 5, -1}, 4), 12);
        tale.feed(0, 5, 1, -1, 0);
        is("not so many", tale.check(1, 2), -2);
        is("no turn 2", tale.check(2, 1), -2);
        is("no turn 0", tale.check(0, 1), -2);
        is("a wrong n", tale.check(1, -1), -2);
        is("the greatest n", tale.check(1, Integer.MAX_VALUE), -2);
        is("the tape stays", tale.count(7), 20);
        is("by its first numbers", tale.check(1, 1), 4);
    }

    private static int checked(BentTale tale, int[] numbers, int n) {
        int[] fed = new int[20];
        System.arraycopy(numbers, 0, fed, 0, numbers.length);
        for (int i = 0; i < 20; i += 5) {
            tale.feed(fed[i], fed[i + 1], fed[i + 2], fed[i + 3], fed[i + 4]);
        }
        return tale.check(1, n);
    }

    // Promises 30, 31
    private static void places() {
        BentTale tale = row();
        tale.person(1, 0);
        tale.thing(10, true);
        tale.hidden(6, false);
        is("where 1", tale.where(1), 0);
        is("where 4", tale.where(4), NONE);
        is("where -1", tale.where(-1), NONE);
        is("held", tale.lies(0), 10);
        is("hidden", tale.lies(1), 20);
        is("lies 2", tale.lies(2), NONE);
        is("lies -1", tale.lies(-1), NONE);
        is("lies greatest", tale.lies(Integer.MAX_VALUE), NONE);
        tale.begin();
        tale.turn(5, 1, NONE);
        is("dead", tale.where(1), 7);
        tale.turn(3, 0, NONE);
        is("dropped", tale.lies(0), 0);
    }

    // Promise 32
    private static void counts() {
        BentTale tale = row();
        tale.thing(0, false);
        tale.hidden(2 + 4 + 8, false);
        wish(tale, 2, 1, "i4");
        law(tale, "ng...;nt...;nd...");
        tale.feed(0, 0, 0, 0, 0);
        tale.begin();
        tale.turn(2, 0, NONE);
        tale.settle(1, 3);
        tale.turn(1, 1, NONE);
        tale.shift(3, 5);
        int[] due = {2, 1, 2, 1, 5, 1, 1, 20, 3};
        for (int what = 0; what <= 8; what++) {
            is("count " + what, tale.count(what), due[what]);
        }
        is("wishes of 2", tale.count(12), 1);
        is("wishes of 1", tale.count(11), 0);
        is("clauses", tale.count(30), 3);
        int[] none = {-1, 9, 10, 14, 19, 20, 21, 22, 25, 29, 31, 36, Integer.MAX_VALUE, Integer.MIN_VALUE};
        for (int what : none) {
            is("count " + what, tale.count(what), NONE);
        }
    }
}
