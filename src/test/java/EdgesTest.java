/** The sentences of the document that name an edge (too small, too great, empty, full, refused), each by a test. */
public final class EdgesTest extends ByHand {
    private static final int LEAST = Integer.MIN_VALUE;
    private static final int GREATEST = Integer.MAX_VALUE;

    public static void main(String[] args) {
        roomsAreSeven();
        doorsStandOnce();
        personsAreFour();
        strangerIsNoFolk();
        thingsAreFive();
        placesOfThings();
        setsHaveTwoRooms();
        beliefsOfPlaces();
        pricesAreOneToNine();
        toldTooLate();
        askedTooEarly();
        tapeIsFull();
        bytesAreHighestFirst();
        wishesHaveFortyBytes();
        wishesAreThreeEach();
        weightsAreOneToNine();
        lawsHaveSixtyBytes();
        lawsAreSix();
        noneGoesAheadOfFaults();
        textsTakeTheWholeTape();
        faultsOfWishes();
        openOnes();
        faultsOfLaws();
        faultsOfClauses();
        lastRoomIsNotTakenOut();
        lookedForByNumbers();
        lookedForBehindEvents();
        nothingTold();
        deedsOfTheStranger();
        hits();
        tellingOfWhatIsNotKnown();
        seenByWhom();
        lookingAtWhatIsNotSo();
        theDead();
        strangerDead();
        deadAmongTheDead();
        atomsNotKnown();
        plansHaveFourDeeds();
        plansByPrice();
        plansOfGivingAndLaying();
        plansInOrder();
        plansHitWithWhatTheyWouldHold();
        plansEndWhereTheWishHolds();
        weightsDecide();
        sixtyTurns();
        behindTheSixtieth();
        tellerActsOnce();
        refusedCallsChangeNothing();
        shiftsByDoors();
        pricesRise();
        none();
        noneAhead();
        owedBehind();
        owedTwice();
        owedAtLast();
        brokenForGood();
        signsOfEvents();
        signsOfY();
        unseenOnes();
        keptByNone();
        keptByTelling();
        keptByEachClause();
        keptByActs();
        keptByNoRoomBeyond();
        answersByNumbers();
        answersOfLikePrice();
        losesInOneOrTwo();
        otherwiseTheTellerCant();
        otherwiseTheSameDeeds();
        otherwiseWhatCantBeDone();
        otherwiseTheDead();
        needlessOnes();
        madeNumbers();
        madeByLot();
        madeCruel();
        surpriseInOrder();
        didOfTheDead();
        checkOfManyNumbers();
        checkOfTheDead();
        countsOfNothing();
        talesApart();
        end("all edges hold");
    }

    private static BentTale quiet() {
        BentTale tale = new BentTale();
        int[] rooms = {3, 5, 1, 4};
        for (int p = 0; p < 4; p++) {
            tale.person(p, rooms[p]);
        }
        tale.door(5, 6);
        tale.door(1, 0);
        tale.door(4, 2);
        wish(tale, 1, 1, "i5");
        wish(tale, 2, 1, "i1");
        return tale;
    }

    // "ROOMS 0 to 6"
    private static void roomsAreSeven() {
        BentTale tale = new BentTale();
        for (int r : new int[] {LEAST, -7, -1, 7, 8, 13, 64, GREATEST}) {
            no("door from " + r, tale.door(r, 0));
            no("door to " + r, tale.door(0, r));
            no("door of " + r, tale.door(r, r));
            no("person in " + r, tale.person(1, r));
        }
        is("it stays", tale.where(1), 0);
        for (int r = 6; r >= 0; r--) {
            yes("person in " + r, tale.person(1, r));
            is("in " + r, tale.where(1), r);
        }
    }

    // "false: no such ones, one twice, it is there"
    private static void doorsStandOnce() {
        BentTale tale = new BentTale();
        for (int a = 0; a < 7; a++) {
            no("door of one room " + a, tale.door(a, a));
            for (int b = a + 1; b < 7; b++) {
                yes("door " + a + " " + b, tale.door(b, a));
                no("once more", tale.door(b, a));
                no("the other way", tale.door(a, b));
            }
        }
        tale.begin();
        for (int t = 1; t < 7; t++) {
            is("through all", tale.turn(1, t, NONE), t);
            is("not to where it is", tale.turn(1, t, NONE), -2);
        }
        is("and back", tale.turn(1, 0, NONE), 7);
    }

    // "PERSONS: 0 the STRANGER, 1 to 3 FOLK"
    private static void personsAreFour() {
        BentTale tale = row();
        tale.thing(0, false);
        feed(tale, "h0");
        int[] wrong = {LEAST, LEAST + 1, -1, 4, 5, 8, 64 + 1, GREATEST};
        for (int p : wrong) {
            no("person " + p, tale.person(p, 0));
            is("where " + p, tale.where(p), NONE);
            no("believe by " + p, tale.believe(p, false, 0, 0));
            no("believe of " + p, tale.believe(1, true, p, 0));
            is("believes by " + p, tale.believes(p, false, 0), NONE);
            is("believes of " + p, tale.believes(1, true, p), NONE);
            is("wish of " + p, tale.wish(p, 1, 2), NONE);
            is("thing of " + p, tale.thing(p < 0 ? p : 10 + p, false), NONE);
        }
        is("the tape stays", tale.count(7), 20);
        is("no thing more", tale.count(2), 1);
        tale.begin();
        pause(tale);
        for (int p : wrong) {
            is("holds of " + p, tale.holds(p, 0), NONE);
            is("plan of " + p, tale.plan(p, 0, 0), NONE);
            is("wanted of " + p, tale.wanted(p), NONE);
            is("shift of " + p, tale.shift(p, 3), NONE);
            is("did of " + p, tale.did(1, p, 0), NONE);
            is("needless of " + p, tale.needless(p), NONE);
            is("turn with x " + p, tale.turn(5, p, NONE), -2);
            is("turn with y " + p, tale.turn(6, 0, p), -2);
        }
    }

    private static void strangerIsNoFolk() {
        BentTale tale = row();
        tale.thing(0, false);
        feed(tale, "h0");
        no("it is told no belief", tale.believe(0, false, 0, 0));
        no("nor of a person", tale.believe(0, true, 1, 0));
        is("it wishes nothing", tale.wish(0, 1, 2), NONE);
        is("no wishes are counted", tale.count(10), NONE);
        tale.begin();
        pause(tale);
        is("no belief", tale.believes(0, false, 0), NONE);
        is("of nobody", tale.believes(0, true, 0), NONE);
        is("holds", tale.holds(0, 0), NONE);
        is("plan", tale.plan(0, 0, 0), NONE);
        is("wanted", tale.wanted(0), NONE);
        is("shift", tale.shift(0, 1), NONE);
        is("needless", tale.needless(0), NONE);
        is("but it did something", tale.did(1, 0, 0), 0);
        is("for no wish", tale.did(1, 0, 4), NONE);
    }

    // "THINGS 0 to 4"; "NONE: 5 are there"
    private static void thingsAreFive() {
        for (int hidden = 0; hidden <= 5; hidden++) {
            BentTale tale = row();
            for (int x = 0; x < 5; x++) {
                is("thing " + x, x < hidden ? tale.hidden(6, false) : tale.thing(1, false), x);
                is("counted", tale.count(2), x + 1);
            }
            is("a sixth that lies", tale.thing(0, false), NONE);
            is("a sixth that is held", tale.thing(10, true), NONE);
            is("a sixth that is hidden", tale.hidden(6, false), NONE);
            is("five are there", tale.count(2), 5);
            for (int x : new int[] {LEAST, -1, 5, 6, 8, GREATEST}) {
                is("lies " + x, tale.lies(x), NONE);
                is("believes " + x, tale.believes(1, false, x), NONE);
                no("believe " + x, tale.believe(1, false, x, 0));
            }
        }
        BentTale few = row();
        few.thing(0, false);
        few.thing(0, false);
        no("none is the third", few.believe(1, false, 2, 0));
        is("nor believed", few.believes(1, false, 2), NONE);
        is("nor lying", few.lies(2), NONE);
        few.begin();
        is("nor to be taken", few.turn(2, 2, NONE), -2);
    }

    // "lies in a ROOM (place 0 to 6), or is held by a PERSON (10 + p)"; "NONE: no such place"
    private static void placesOfThings() {
        for (int place : new int[] {0, 6, 10, 11, 12, 13}) {
            BentTale tale = row();
            is("thing at " + place, tale.thing(place, false), 0);
            is("it is there", tale.lies(0), place);
        }
        BentTale tale = row();
        for (int place : new int[] {LEAST, -1, 7, 8, 9, 14, 15, 16, 20, 26, GREATEST}) {
            is("thing at " + place, tale.thing(place, false), NONE);
        }
        is("none came", tale.count(2), 0);
    }

    // "HIDDEN in a set of ROOMS (bits, two at least)"; "NONE: no such set"
    private static void setsHaveTwoRooms() {
        BentTale tale = row();
        int[] wrong = {LEAST, LEAST + 3, -1, 0, 1, 2, 4, 8, 16, 32, 64, 128, 129, 128 + 6, 255, 256, GREATEST};
        for (int set : wrong) {
            is("hidden in " + set, tale.hidden(set, false), NONE);
        }
        is("none came", tale.count(2), 0);
        int[] sets = {3, 96, 65, 126, 127};
        for (int x = 0; x < 5; x++) {
            is("hidden in " + sets[x], tale.hidden(sets[x], false), x);
            is("it is hidden", tale.lies(x), 20);
            is("nobody has looked", tale.count(20 + x), sets[x]);
        }
    }

    // "a place (ROOM 0 to 6; of a THING 10 + p' too, p' another one; NONE: not known)"; "of itself"
    private static void beliefsOfPlaces() {
        for (int p = 1; p < 4; p++) {
            BentTale tale = row();
            tale.thing(0, false);
            for (int place = -3; place < 20; place++) {
                boolean room = place >= -1 && place <= 6;
                boolean held = place >= 10 && place <= 13 && place != 10 + p;
                int before = tale.believes(p, false, 0);
                is("thing at " + place, tale.believe(p, false, 0, place) ? 1 : 0, room || held ? 1 : 0);
                is("so it believes", tale.believes(p, false, 0), room || held ? place : before);
                is("person at " + place, tale.believe(p, true, 0, place) ? 1 : 0, room ? 1 : 0);
                no("itself at " + place, tale.believe(p, true, p, place));
            }
            no("at the least", tale.believe(p, false, 0, LEAST));
            no("at the greatest", tale.believe(p, false, 0, GREATEST));
            no("a person at the greatest", tale.believe(p, true, 0, GREATEST));
            is("of itself", tale.believes(p, true, p), 3 + p);
        }
    }

    // "PRICES of KINDS (1 to 9; 1 at first)"; "The PRICE of a KIND (1 to 5)"
    private static void pricesAreOneToNine() {
        BentTale tale = row();
        for (int kind : new int[] {LEAST, -1, 0, 6, 7, 8, GREATEST}) {
            no("price of kind " + kind, tale.price(kind, 1));
        }
        for (int n : new int[] {LEAST, -1, 0, 10, 11, GREATEST}) {
            no("price " + n, tale.price(1, n));
        }
        wish(tale, 1, 1, "i3");
        for (int n = 1; n <= 9; n++) {
            yes("price " + n, tale.price(1, n));
        }
        for (int kind = 2; kind <= 5; kind++) {
            yes("price of kind " + kind, tale.price(kind, 9));
            yes("told once more", tale.price(kind, 1));
        }
        tale.begin();
        is("the last one counts", tale.plan(1, 0, NONE), 9);
        BentTale other = row();
        wish(other, 1, 1, "i3");
        other.begin();
        is("1 at first", other.plan(1, 0, NONE), 1);
    }

    // "THE TALE has begun": nothing more is told
    private static void toldTooLate() {
        BentTale tale = row();
        wish(tale, 1, 1, "i4");
        feed(tale, "i5");
        yes("begin", tale.begin());
        for (int time = 0; time < 2; time++) {
            no("begin again", tale.begin());
            no("door", tale.door(0, 6));
            no("person", tale.person(1, 1));
            is("thing", tale.thing(0, false), NONE);
            is("hidden", tale.hidden(3, false), NONE);
            no("believe", tale.believe(1, true, 2, 0));
            no("price", tale.price(1, 2));
            is("wish", tale.wish(1, 1, 2), NONE);
            is("law", tale.law(2), NONE);
            is("the tape stays", tale.count(7), 20);
            is("no door came", tale.turn(1, 6, NONE), -2);
            is("it was not moved", tale.where(1), 4);
            is("no thing came", tale.count(2), 0);
            is("no belief came", tale.believes(1, true, 2), NONE);
            is("no wish came", tale.count(11), 1);
            is("no law came", tale.count(3), 0);
            pause(tale);
        }
        is("but the tape is fed", tale.feed(0, 0, 0, 0, 0), 40);
    }

    // "THE TALE has not begun": nothing is played
    private static void askedTooEarly() {
        BentTale tale = row();
        tale.hidden(6, false);
        wish(tale, 1, 1, "i5");
        law(tale, "ng...");
        law(tale, "eg...,1");
        is("holds", tale.holds(1, 0), NONE);
        is("plan", tale.plan(1, 0, NONE), NONE);
        is("wanted", tale.wanted(1), NONE);
        is("turn", pause(tale), NONE);
        is("a turn that can't be", tale.turn(7, 0, 0), NONE);
        is("settle", tale.settle(0, 1), NONE);
        is("shift", tale.shift(1, 3), NONE);
        is("kept", tale.kept(0), NONE);
        is("loses", tale.loses(), NONE);
        is("answer", tale.answer(1, 0), NONE);
        is("otherwise", tale.otherwise(1), NONE);
        is("needless", tale.needless(1), NONE);
        is("made", tale.made(0, 0, 1, 0), NONE);
        is("surprise", tale.surprise(1), NONE);
        is("did", tale.did(1, 0, 0), NONE);
        is("check", tale.check(1, 0), -2);
        is("a law is kept", tale.keeps(0), 0);
        is("a law is owed", tale.keeps(1), 1);
        is("none is broken", tale.broken(0), NONE);
        is("no turn", tale.count(0), 0);
        yes("it begins still", tale.begin());
    }

    // "how many it has; NONE if that would be more than 400"
    private static void tapeIsFull() {
        BentTale tale = row();
        for (int i = 1; i <= 20; i++) {
            is("feed " + i, tale.feed('i' << 24 | '0' << 16, 0, 0, 0, 0), 20 * i);
        }
        for (int i = 0; i < 3; i++) {
            is("full", tale.feed(-1, -1, -1, -1, -1), NONE);
            is("it stays", tale.count(7), 400);
        }
        is("its first bytes are as before", tale.wish(1, 1, 2), 0);
        is("empty", tale.count(7), 0);
        is("no byte is left for a wish", tale.wish(1, 1, 1), NONE);
        is("no byte is left for a law", tale.law(1), NONE);
        is("from the start again", tale.feed(0, 0, 0, 0, 0), 20);
    }

    // "the highest of each int first"
    private static void bytesAreHighestFirst() {
        BentTale tale = row();
        tale.feed('h' << 24 | '0' << 16 | '|' << 8 | 'h', '1' << 24 | '&' << 16 | 'i' << 8 | '2', 0, 0, 0);
        is("eight bytes in order", tale.wish(1, 1, 8), 0);
        tale.feed('h' << 24 | ('0' + 128) << 16, 0, 0, 0, 0);
        is("no sign above 127 is a digit", tale.wish(1, 1, 2), -1001);
        tale.feed('h' + 128 << 24 | '0' << 16, 0, 0, 0, 0);
        is("nor a letter", tale.wish(1, 1, 2), -1000);
        tale.feed(-1, -1, -1, -1, -1);
        is("nor the greatest", tale.law(20), -1000);
        tale.feed(0, 0, 0, 0, 'i');
        is("the last byte is the lowest of the last", tale.wish(1, 1, 20), -1000);
    }

    // "the first n bytes of the tape (1 to 40)"; "it has not so many (the tape stays)"
    private static void wishesHaveFortyBytes() {
        BentTale tale = row();
        String forty = "!!h0&h0&h0&h0&h0&h0&h0&h0&h0&h0&h0&h0&h0";
        is("forty bytes", wish(tale, 1, 1, forty), 0);
        is("the end behind forty", wish(tale, 1, 1, "!h0&h0&h0&h0&h0&h0&h0&h0&h0&h0&h0&h0&h0&"), -1040);
        is("the last of forty", wish(tale, 1, 1, "!!h0&h0&h0&h0&h0&h0&h0&h0&h0&h0&h0&h0&h5"), -3039);
        feed(tale, forty + "|h0");
        for (int n : new int[] {LEAST, -40, -1, 0, 41, 42, 60, 61, GREATEST}) {
            is("bytes: " + n, tale.wish(1, 1, n), NONE);
            is("the tape stays", tale.count(7), 60);
        }
        is("by the first forty", tale.wish(1, 1, 40), 1);
        feed(tale, "h0|h0|h0|h0|h0|h0|h00");
        is("forty are there", tale.count(7), 40);
        is("the twenty first is one too many", tale.wish(1, 1, 21), -1020);
        feed(tale, "h0|h0|h0|h0|h0|h0|h0");
        is("it has not so many", tale.wish(1, 1, 21), NONE);
        is("the tape stays behind it", tale.count(7), 20);
        is("it has just so many", tale.wish(1, 1, 20), 2);
        is("one byte", wish(tale, 2, 1, "h"), -1001);
    }

    // "WISHES of FOLK (three each at most)"
    private static void wishesAreThreeEach() {
        BentTale tale = row();
        for (int p = 1; p < 4; p++) {
            for (int k = 0; k < 3; k++) {
                is("a faulty one is not counted", wish(tale, p, 1, "h"), -1001);
                is("wish " + k, wish(tale, p, 1, "h" + k), k);
                is("counted", tale.count(10 + p), k + 1);
            }
            feed(tale, "h0");
            is("a fourth", tale.wish(p, 1, 2), NONE);
            is("a faulty fourth", tale.wish(p, 1, 1), NONE);
            is("three stay", tale.count(10 + p), 3);
            is("and the tape", tale.count(7), 20);
            tale.check(0, 0);
            law(tale, "x");
        }
        tale.begin();
        for (int k : new int[] {LEAST, -1, 3, 4, GREATEST}) {
            is("holds " + k, tale.holds(1, k), NONE);
            is("plan " + k, tale.plan(1, k, 0), NONE);
        }
        is("the third", tale.holds(3, 2), 0);
    }

    // "a WEIGHT (1 to 9)"
    private static void weightsAreOneToNine() {
        BentTale tale = row();
        feed(tale, "h0");
        for (int weight : new int[] {LEAST, -1, 0, 10, 11, GREATEST}) {
            is("weight " + weight, tale.wish(1, weight, 2), NONE);
        }
        is("the tape stays", tale.count(7), 20);
        is("the greatest", tale.wish(1, 9, 2), 0);
        is("the least", wish(tale, 1, 1, "h0"), 1);
    }

    // "A LAW by the first n bytes of the tape (1 to 60)"
    private static void lawsHaveSixtyBytes() {
        BentTale tale = row();
        String sixty = "rg666u,t000u,99;rd123u,v456u,00;rh...u,l...u,10;ag...u,t...u";
        is("sixty bytes", law(tale, sixty), 0);
        is("the end behind sixty", law(tale, sixty.substring(0, 48) + "rg...u,t...,"), -1060);
        is("the last of sixty", law(tale, sixty.substring(0, 59) + "7"), -1059);
        feed(tale, sixty + ";");
        for (int n : new int[] {LEAST, -60, -1, 0, 61, 62, 80, 81, GREATEST}) {
            is("bytes: " + n, tale.law(n), NONE);
            is("the tape stays", tale.count(7), 80);
        }
        is("by the first sixty", tale.law(60), 1);
        feed(tale, "ng...;ng...;ng...u");
        is("it has not so many", tale.law(21), NONE);
        is("the tape stays behind it", tale.count(7), 20);
        is("by the first of them", tale.law(18), 2);
        is("three clauses", tale.count(32), 3);
    }

    // "LAWS OF THE TALE 0 to 5"
    private static void lawsAreSix() {
        BentTale tale = row();
        for (int i = 0; i < 6; i++) {
            is("no law " + i, tale.keeps(i), NONE);
            is("no clauses", tale.count(30 + i), NONE);
            is("a faulty one is not counted", law(tale, "ng..."  + ";"), -1006);
            is("law " + i, law(tale, "ng...;ng...;ng...;ng...".substring(0, 6 * (i % 4) + 5)), i);
            is("its clauses", tale.count(30 + i), i % 4 + 1);
            is("counted", tale.count(3), i + 1);
        }
        feed(tale, "ng...");
        is("a seventh", tale.law(5), NONE);
        is("a faulty seventh", tale.law(4), NONE);
        is("the tape stays", tale.count(7), 20);
        is("six stay", tale.count(3), 6);
        for (int i : new int[] {LEAST, -1, 6, 7, 30, GREATEST}) {
            is("keeps " + i, tale.keeps(i), NONE);
            is("broken " + i, tale.broken(i), NONE);
        }
    }

    // "NONE is told first, then a FAULT"
    private static void noneGoesAheadOfFaults() {
        BentTale tale = row();
        feed(tale, "x");
        is("of the stranger", tale.wish(0, 1, 1), NONE);
        is("of no weight", tale.wish(1, 0, 1), NONE);
        is("of no byte", tale.wish(1, 1, 0), NONE);
        is("of too many", tale.wish(1, 1, 21), NONE);
        is("a law of no byte", tale.law(0), NONE);
        is("a law of too many", tale.law(21), NONE);
        is("the tape stays", tale.count(7), 20);
        is("then the fault", tale.wish(1, 1, 1), -1000);
        is("it is empty", tale.count(7), 0);
        feed(tale, "x");
        is("the fault of a law", tale.law(1), -1000);
        is("it is empty, too", tale.count(7), 0);
        feed(tale, "x");
        tale.begin();
        is("begun", tale.wish(1, 1, 1), NONE);
        is("begun, too", tale.law(1), NONE);
        is("the tape stays behind them", tale.count(7), 20);
    }

    // "(empty then)": all of the tape, whatever n was
    private static void textsTakeTheWholeTape() {
        BentTale tale = row();
        feed(tale, "i4 and whatever comes behind it, up to here");
        is("the first two", tale.wish(1, 1, 2), 0);
        is("all are gone", tale.count(7), 0);
        feed(tale, "ng... and whatever comes behind it, up to here");
        is("the first five", tale.law(5), 0);
        is("all are gone, too", tale.count(7), 0);
        feed(tale, "i and whatever comes behind it, up to here");
        is("a fault", tale.wish(1, 1, 1), -1001);
        is("all are gone by a fault", tale.count(7), 0);
        tale.begin();
        pause(tale);
        feed(tale, 0, 0, -1, -1, 1, 0, -1, -1, 2, 0, -1, -1, 3, 0, -1, -1, 4, 4, 4, 4);
        is("right", tale.check(1, 4), NONE);
        is("all are gone by a check", tale.count(7), 0);
    }

    // "FAULTS, the first from the left: 1 what can't stand there (the end, too); 3 a digit that is too great, at it"
    private static void faultsOfWishes() {
        String[] atoms = {"h4", "i6", "d3", "l46", "o34"};
        for (String atom : atoms) {
            BentTale tale = row();
            for (int i = 1; i < atom.length(); i++) {
                for (char digit = '0'; digit <= '9'; digit++) {
                    // Always with a fault behind it, so that all of them can be told.
                    String text = atom.substring(0, i) + digit + atom.substring(i + 1) + "x";
                    boolean fits = digit <= atom.charAt(i);
                    is("wish " + text, wish(tale, 1, 1, text), fits ? -1000 - atom.length() : -3000 - i);
                }
                for (char sign : new char[] {' ', '/', ':', '.', 'h', '(', '!', '&', '|', ')', '-', 0, 255}) {
                    String text = atom.substring(0, i) + sign;
                    is("wish " + text, wish(tale, 1, 1, text), -1000 - i);
                }
                is("the end of " + atom, wish(tale, 1, 1, atom.substring(0, i)), -1000 - i);
            }
            is("none was taken", tale.count(11), 0);
        }
        BentTale tale = row();
        for (char sign : new char[] {' ', '0', '9', 'a', 'g', 'j', 'H', ')', '&', '|', 0, 128, 255}) {
            is("a piece of " + (int) sign, wish(tale, 1, 1, sign + "h0"), -1000);
            is("a negated one of " + (int) sign, wish(tale, 1, 1, "!" + sign), -1001);
            is("one in brackets of " + (int) sign, wish(tale, 1, 1, "(" + sign), -1001);
            is("a second one of " + (int) sign, wish(tale, 1, 1, "h0&" + sign), -1003);
        }
        String[] faults = {"h0( -1002", "h0! -1002", "(h0( -1003", "(h0! -1003", "(h0&) -1004", "(h0|) -1004",
            "(h0 ) -1003", "h5h -3001", "hh5 -1001", "h0&h5&x -3004", "h0&x&h5 -1003", "(h0)) -1004", "!(h0 -1004",
            "!(h0)x -1005", ") -1000"};
        for (String fault : faults) {
            String text = fault.substring(0, fault.lastIndexOf(' '));
            is("wish " + text, wish(tale, 1, 1, text), Integer.parseInt(fault.substring(text.length() + 1)));
        }
        is("none was taken", tale.count(11), 0);
    }

    // "5 a seventh of ( and ! that are open in one another, at it (a ! is open till its PIECE ends)"
    private static void openOnes() {
        String[] good = {"((((((h0))))))", "!!!!!!h0", "!(!(!(h0)))", "(h0)&(h0)&(h0)&(h0)&(h0)&(h0)&(h0)|!h1",
            "!h0&!h1&!h2&!h3&!h4&!i0&!i1", "(!h0&(((((h0))))))", "(!h0|!(!(!h0)))", "!(h0&!h1&!h2&!h3&!(((h4))))"};
        for (String text : good) {
            is("wish " + text, wish(row(), 1, 1, text), 0);
        }
        String[] bad = {"(((((((h0))))))) 6", "!!!!!!!h0 6", "!(!(!(!h0))) 6", "(h0&((((((h0))))))) 9",
            "!(h0&((((((h0))))))) 9", "(!h0&((((((h0))))))) 10", "!!!!!!( 6", "((((((! 6",
            "((((((h0))))))&(((((((h0))))))) 21", "!!!!!!h0|!!!!!!!h0 15"};
        for (String fault : bad) {
            String text = fault.substring(0, fault.indexOf(' '));
            int place = Integer.parseInt(fault.substring(text.length() + 1));
            is("wish " + text, wish(row(), 1, 1, text), -5000 - place);
        }
        is("a fault ahead of it", wish(row(), 1, 1, "(((((x((h0"), -1005);
        is("a digit ahead of it", wish(row(), 1, 1, "h9&(((((((h0"), -3001);
    }

    // "3 a digit above 6, at it"; "1 what can't stand there (the end, too)"
    private static void faultsOfLaws() {
        String[] laws = {"ng012", "ag012,t012", "rd012,h012,9", "ev012,9"};
        for (String law : laws) {
            for (int i = 0; i < law.length(); i++) {
                BentTale tale = row();
                char old = law.charAt(i);
                boolean isSign = old >= '0' && old <= '2';
                for (char digit = '0'; isSign && digit <= '9'; digit++) {
                    String text = law.substring(0, i) + digit + law.substring(i + 1) + "x";
                    boolean fits = digit <= '6';
                    is("law " + text, law(tale, text), fits ? -1000 - law.length() : -3000 - i);
                }
                for (char sign : new char[] {' ', 'x', '!', ':', '/', 0, 200}) {
                    is(law + " with " + (int) sign + " at " + i, law(tale, law.substring(0, i) + sign), -1000 - i);
                }
                if (i > 0) {
                    is("the end of " + law + " at " + i, law(tale, law.substring(0, i)), -1000 - i);
                }
                is("none was taken", tale.count(3), 0);
            }
        }
        BentTale tale = row();
        for (char letter : "abcefijkmnopqrsuwxyzGTDVHL.0;,".toCharArray()) {
            is("event of " + letter, law(tale, "n" + letter + "..."), -1001);
        }
        is("none was taken", tale.count(3), 0);
        for (int i = 0; i < 6; i++) {
            is("event of kind " + (i + 1), law(tale, "n" + "gtdvhl".charAt(i) + "666u"), i);
        }
    }

    // "2 a third digit of N, at it"; "4 a fifth CLAUSE, at its letter (if that can stand there)"
    private static void faultsOfClauses() {
        BentTale tale = row();
        String[] faults = {"eg...,123 -2008", "eg...,000 -2008", "eg...,999;x -2008", "rg...,t...,100 -2013",
            "eg...,12x -1008", "eg...,1x -1007", "eg...,x -1006", "eg...,1u -1007", "eg...,-1 -1006", "eg...,1,2 -1007",
            "eg...,12;eg...,345 -2017", "; -1000", "ng...;;ng... -1006", "ng...;n -1007", "ng...uu -1006",
            "ng...u; -1007", "ng...,1 -1005", "ag...u,g...u,1 -1012", "ag...u;ng... -1006", "rg...,g...;ng... -1010",
            "eg...;ng... -1005", "ng7..;n -3002"};
        for (String fault : faults) {
            String text = fault.substring(0, fault.lastIndexOf(' '));
            is("law " + text, law(tale, text), Integer.parseInt(fault.substring(text.length() + 1)));
        }
        String four = "ng...;ng...;ng...;ng...";
        for (char letter : "nare".toCharArray()) {
            is("a fifth clause " + letter, law(tale, four + ";" + letter), -4024);
            is("whatever stands behind it " + letter, law(tale, four + ";" + letter + "x"), -4024);
        }
        for (char sign : new char[] {'x', 'g', '0', ';', '.', ' ', 'N', 0, 255}) {
            is("no clause at all " + (int) sign, law(tale, four + ";" + sign), -1024);
            is("no ; either " + (int) sign, law(tale, four + (sign == ';' ? 'y' : sign)), -1023);
        }
        is("the end behind four", law(tale, four + ";"), -1024);
        is("none was taken", tale.count(3), 0);
        String[] good = {"eg...,0", "eg...,99", "eg...u,00", "rg...u,t...u,09", four,
            "eg...,1;eg...,2;eg...,3;eg...,4"};
        for (int i = 0; i < 6; i++) {
            is("law " + good[i], law(tale, good[i]), i);
        }
    }

    // "when one ROOM is left, it lies there, settled (and is not taken out)"
    private static void lastRoomIsNotTakenOut() {
        for (int turned = 0; turned < 2; turned++) {
            BentTale tale = new BentTale();
            int[] rooms = {turned, 1 - turned, 6, 6};
            for (int p = 0; p < 4; p++) {
                tale.person(p, rooms[p]);
            }
            tale.hidden(1 + 2, false);
            is("hidden till then", tale.lies(0), 20);
            tale.begin();
            is("where the second one is", tale.lies(0), 1 - turned);
            is("no set", tale.count(20), NONE);
            is("it is seen there", tale.believes(1, false, 0), 1 - turned);
            is("not from afar", tale.believes(2, false, 0), NONE);
        }
        BentTale all = new BentTale();
        for (int p = 0; p < 4; p++) {
            all.person(p, 3 - p);
        }
        all.hidden(15, false);
        all.begin();
        is("the last of four looks in the last room", all.lies(0), 0);
        is("and sees it", all.believes(3, false, 0), 0);
    }

    // "PERSONS by numbers, each THING"
    private static void lookedForByNumbers() {
        BentTale tale = new BentTale();
        for (int p = 0; p < 4; p++) {
            tale.person(p, p);
        }
        int[] sets = {1 + 8, 1 + 2 + 4, 2 + 4 + 8, 2 + 8 + 16, 16 + 32 + 64};
        for (int set : sets) {
            tale.hidden(set, false);
        }
        tale.begin();
        int[] due = {3, 2, 3, 4, 20};
        for (int x = 0; x < 5; x++) {
            is("it lies", tale.lies(x), due[x]);
        }
        is("nobody was there", tale.count(24), 16 + 32 + 64);
        is("3 sees", tale.believes(3, false, 0), 3);
        is("2 sees", tale.believes(2, false, 1), 2);
        is("1 sees none", tale.believes(1, false, 1), NONE);
    }

    // "Behind each EVENT, and each act of the teller's"
    private static void lookedForBehindEvents() {
        BentTale tale = row();
        tale.hidden(2 + 4 + 8, false);
        tale.hidden(2 + 4, false);
        wish(tale, 1, 1, "i3");
        tale.begin();
        is("nobody came yet", tale.count(20), 14);
        tale.turn(1, 1, NONE);
        is("two came to its rooms", tale.lies(0), 2);
        is("one came to its room", tale.lies(1), 2);
        is("not seen yet", tale.believes(1, false, 0), NONE);
        BentTale other = row();
        other.hidden(4 + 8, false);
        other.hidden(1 + 2 + 8, false);
        other.begin();
        pause(other);
        other.shift(1, 3);
        is("the shifted one looked", other.lies(0), 2);
        is("one room less", other.lies(1), 1);
    }

    // "by a KIND, an x and a y (NONE where nothing is told below)"
    private static void nothingTold() {
        int[][] deeds = {{0, -1, -1}, {1, 1, -1}, {2, 0, -1}, {3, 1, -1}, {4, 1, 1}, {5, 1, -1}, {6, 0, 1}};
        for (int[] deed : deeds) {
            BentTale tale = row();
            tale.person(1, 0);
            tale.thing(0, false);
            tale.thing(10, true);
            tale.begin();
            for (int x = -2; x < 9; x++) {
                for (int y = -2; y < 6; y++) {
                    boolean can = x == deed[1] && y == deed[2] || deed[0] == 6 && x == 1 && y == 1;
                    if (!can) {
                        is("turn " + deed[0] + " " + x + " " + y, tale.turn(deed[0], x, y), -2);
                    }
                }
            }
            is("turn " + deed[0], tale.turn(deed[0], deed[1], deed[2]), 1);
        }
    }

    private static void deedsOfTheStranger() {
        BentTale tale = row();
        for (int p = 1; p < 3; p++) {
            tale.person(p, 0);
        }
        tale.thing(0, false);
        tale.thing(11, true);
        tale.thing(1, false);
        tale.begin();
        for (int kind : new int[] {LEAST, -64, -1, 7, 8, 64, GREATEST}) {
            is("kind " + kind, tale.turn(kind, NONE, NONE), -2);
            is("kind " + kind + " of 0", tale.turn(kind, 0, NONE), -2);
        }
        is("TAKE from another", tale.turn(2, 1, NONE), -2);
        is("TAKE from afar", tale.turn(2, 2, NONE), -2);
        is("DROP what lies", tale.turn(3, 0, NONE), -2);
        is("DROP what another holds", tale.turn(3, 1, NONE), -2);
        is("GIVE what lies", tale.turn(4, 0, 1), -2);
        is("GIVE what another holds", tale.turn(4, 1, 2), -2);
        is("HIT with nothing", tale.turn(5, 1, NONE), -2);
        is("GO far", tale.turn(1, 2, NONE), -2);
        is("GO nowhere", tale.turn(1, 0, NONE), -2);
        is("nothing came of it", tale.count(0) + tale.count(8), 0);
        is("TAKE", tale.turn(2, 0, NONE), 1);
        is("HIT with no weapon", tale.turn(5, 1, NONE), -2);
        is("GIVE to itself", tale.turn(4, 0, 0), -2);
        is("GIVE to one far away", tale.turn(4, 0, 3), -2);
        is("GIVE", tale.turn(4, 0, 2), 2);
        is("GO", tale.turn(1, 1, NONE), 3);
        is("it has left what it gave", tale.lies(0), 12);
        is("TELL nobody there", tale.turn(6, 0, 1), -2);
        is("four events less the waits", tale.count(8), 3);
    }

    // "HIT PERSON x in its ROOM, if it holds a WEAPON: x is DEAD; THINGS that x held lie in that ROOM"
    private static void hits() {
        BentTale tale = row();
        for (int p = 1; p < 4; p++) {
            tale.person(p, 0);
        }
        tale.thing(11, false);
        tale.thing(11, true);
        tale.thing(10, true);
        tale.thing(12, false);
        tale.believe(1, false, 3, 4);
        tale.begin();
        is("itself", tale.turn(5, 0, NONE), -2);
        is("one", tale.turn(5, 1, NONE), 1);
        is("who saw it", tale.did(1, 0, 3), 4 + 8);
        is("all that it held", tale.lies(0), 0);
        is("the weapon, too", tale.lies(1), 0);
        is("not what it held not", tale.lies(3), 12);
        is("nor the one that hit", tale.lies(2), 10);
        is("the dead one again", tale.turn(5, 1, NONE), -2);
        is("GIVE to the dead", tale.turn(4, 2, 1), -2);
        is("TELL the dead", tale.turn(6, 0, 1), -2);
        is("DROP the weapon", tale.turn(3, 2, NONE), 2);
        is("who saw it, of the living", tale.did(2, 0, 3), 4 + 8);
        is("without one", tale.turn(5, 2, NONE), -2);
        is("TAKE the other", tale.turn(2, 1, NONE), 3);
        is("and HIT", tale.turn(5, 2, NONE), 4);
        is("the last one", tale.turn(5, 3, NONE), 5);
        is("nobody saw it", tale.did(5, 0, 3), 0);
        is("three are dead", tale.made(0, 0, 1, 1), 3);
        is("WAIT is left, and it is played", pause(tale), 6);
    }

    // "where it is, if it is not HIDDEN; else not known"
    private static void tellingOfWhatIsNotKnown() {
        BentTale tale = row();
        tale.person(1, 0);
        tale.hidden(6, false);
        tale.thing(11, false);
        tale.thing(10, false);
        tale.thing(12, false);
        tale.believe(1, false, 0, 1);
        tale.believe(1, false, 3, 6);
        tale.begin();
        is("believed", tale.believes(1, false, 0), 1);
        tale.turn(6, 0, 1);
        is("told that it is not known", tale.believes(1, false, 0), NONE);
        tale.turn(6, 1, 1);
        is("of what it holds it knows", tale.believes(1, false, 1), 11);
        tale.turn(6, 2, 1);
        is("of what the stranger holds", tale.believes(1, false, 2), 10);
        tale.turn(6, 3, 1);
        is("of what another holds", tale.believes(1, false, 3), 12);
        is("four events", tale.count(8), 4);
        is("of no thing", tale.turn(6, 4, 1), -2);
        is("to no person", tale.turn(6, 0, 4), -2);
        is("to itself", tale.turn(6, 0, 0), -2);
        is("to nobody", tale.turn(6, 0, NONE), -2);
        is("of nothing", tale.turn(6, NONE, 1), -2);
    }

    // "SEEN by each other PERSON not DEAD who is in the ROOM of the one who does it (of GO: in the ROOM that is left,
    // or in the one that is come to; who is HIT does not see it)"
    private static void seenByWhom() {
        BentTale tale = row();
        tale.person(1, 0);
        tale.person(2, 1);
        tale.person(3, 2);
        tale.thing(10, false);
        tale.begin();
        tale.turn(3, 0, NONE);
        is("in its room", tale.did(1, 0, 3), 2);
        tale.turn(1, 1, NONE);
        is("left and come to", tale.did(2, 0, 3), 2 + 4);
        tale.turn(1, 2, NONE);
        is("left and come to, too", tale.did(3, 0, 3), 4 + 8);
        tale.turn(1, 3, NONE);
        is("left", tale.did(4, 0, 3), 8);
        tale.turn(1, 4, NONE);
        is("by nobody", tale.did(5, 0, 3), 0);
        pause(tale);
        is("a WAIT is not seen", tale.did(6, 0, 3), NONE);
        BentTale hit = row();
        hit.person(1, 0);
        hit.thing(10, true);
        hit.begin();
        hit.turn(5, 1, NONE);
        is("who is hit does not see it", hit.did(1, 0, 3), 0);
        hit.turn(3, 0, NONE);
        is("nor anything more", hit.did(2, 0, 3), 0);
    }

    // "of what it BELIEVED to lie there, or to be there or held by one who is there, but isn't so: not known"
    private static void lookingAtWhatIsNotSo() {
        BentTale tale = row();
        tale.person(1, 0);
        tale.person(2, 0);
        tale.thing(12, false);
        for (int x = 1; x < 5; x++) {
            tale.thing(6, false);
        }
        tale.believe(1, false, 0, 10);
        tale.believe(1, false, 1, 0);
        tale.believe(1, false, 2, 12);
        tale.believe(1, false, 3, 13);
        tale.believe(1, false, 4, 5);
        tale.believe(1, true, 2, 6);
        tale.believe(1, true, 3, 0);
        is("believed ahead", tale.believes(1, false, 0), 10);
        tale.begin();
        is("it is held by another one there", tale.believes(1, false, 0), 12);
        is("it does not lie there", tale.believes(1, false, 1), NONE);
        is("2 holds it not", tale.believes(1, false, 2), NONE);
        is("3 is not there to be looked at", tale.believes(1, false, 3), 13);
        is("5 is not there to be looked at", tale.believes(1, false, 4), 5);
        is("who is there", tale.believes(1, true, 2), 0);
        is("who is not there", tale.believes(1, true, 3), NONE);
        is("the stranger is there", tale.believes(1, true, 0), 0);
        is("of itself", tale.believes(1, true, 1), 0);
        is("who believed nothing of it", tale.believes(3, false, 0), NONE);
        BentTale other = row();
        other.person(1, 0);
        other.person(2, 0);
        for (int x = 0; x < 5; x++) {
            other.thing(6, false);
            other.believe(1, false, x, 10 + x % 2 * 2);
        }
        other.begin();
        for (int x = 0; x < 5; x++) {
            is("neither of them holds thing " + x, other.believes(1, false, x), NONE);
        }
    }

    // "each FOLK not DEAD looks about"; "Who is HIT in its ROOM it BELIEVES DEAD"
    private static void theDead() {
        BentTale tale = row();
        tale.person(1, 0);
        tale.person(2, 1);
        tale.person(3, 0);
        tale.thing(10, true);
        tale.thing(11, false);
        tale.believe(2, true, 1, 0);
        tale.believe(2, false, 1, 11);
        wish(tale, 1, 9, "i1");
        wish(tale, 2, 1, "i0");
        law(tale, "ng1..");
        tale.begin();
        tale.turn(5, 1, NONE);
        is("3 saw it", tale.believes(3, true, 1), 7);
        is("2 came to look: it is not there", tale.believes(2, true, 1), NONE);
        is("what it held lies there", tale.believes(2, false, 1), 0);
        is("the dead do nothing", tale.did(1, 1, 0), NONE);
        is("the law is kept", tale.keeps(0), 0);
        is("it is no more", tale.where(1), 7);
        is("it believes still that 2 was not seen", tale.believes(1, true, 2), NONE);
        is("of itself it knows", tale.believes(1, true, 1), 7);
        is("holds", tale.holds(1, 0), NONE);
        is("plan", tale.plan(1, 0, 0), NONE);
        is("wanted", tale.wanted(1), NONE);
        is("shift", tale.shift(1, 1), NONE);
        pause(tale);
        is("nothing for ever", tale.did(2, 1, 0), NONE);
        is("what 3 saw it believes for ever", tale.believes(3, true, 1), 7);
    }

    // "the STRANGER does a DEED (none but WAIT if it is DEAD)"
    private static void strangerDead() {
        BentTale tale = row();
        tale.person(1, 0);
        tale.thing(11, true);
        tale.thing(10, false);
        tale.thing(0, false);
        wish(tale, 1, 1, "d0");
        law(tale, "nh1..u");
        tale.begin();
        is("it does its deed first", tale.turn(3, 1, NONE), 1);
        is("done", tale.did(1, 0, 0), 3);
        is("then it is hit", tale.where(0), 7);
        is("which nobody saw", tale.keeps(0), 2);
        is("its wish holds", tale.holds(1, 0), 1);
        int[][] deeds = {{1, 1, -1}, {2, 2, -1}, {3, 1, -1}, {4, 1, 1}, {5, 1, -1}, {6, 0, 1}, {0, 0, -1}, {0, -1, 0},
            {7, -1, -1}};
        for (int[] deed : deeds) {
            is("kind " + deed[0], tale.turn(deed[0], deed[1], deed[2]), -2);
        }
        is("nothing is over", tale.count(0), 1);
        is("from its room", tale.shift(1, 1), 3);
        is("WAIT", pause(tale), 2);
        is("into its room", tale.shift(1, 0), 6);
        for (int what = 0; what < 5; what++) {
            is("it did nothing", tale.did(2, 0, what), NONE);
        }
        is("mad it waits", tale.made(1, 4711, 20, 2), 0);
        is("cruel it waits", tale.made(2, 4711, 20, 1), 1);
    }

    // "y, and x of HIT: another PERSON, not DEAD", and the DEAD are in no ROOM, so in none together
    private static void deadAmongTheDead() {
        BentTale tale = row();
        tale.person(1, 0);
        tale.person(2, 0);
        tale.thing(11, true);
        tale.thing(10, true);
        tale.thing(12, true);
        wish(tale, 1, 1, "d0&d2");
        tale.begin();
        is("one is hit", pause(tale), 1);
        is("the other is hit", pause(tale), 2);
        is("both are DEAD", tale.where(0) + tale.where(2), 14);
        for (int x = 0; x < 3; x++) {
            for (int y = 0; y < 4; y++) {
                is("the DEAD tell nobody", tale.turn(6, x, y), -2);
                is("the DEAD give nothing", tale.turn(4, x, y), -2);
            }
        }
        for (int y = 0; y < 4; y++) {
            is("the DEAD hit nobody", tale.turn(5, y, NONE), -2);
        }
        for (int seed = 0; seed < 20; seed++) {
            is("mad it waits, seed " + seed, tale.made(1, seed, 20, 2), 0);
            is("cruel it waits, seed " + seed, tale.made(2, seed, 20, 2), 0);
        }
        is("two TURNS are over", tale.count(0), 2);
    }

    // "By BELIEFS an ATOM holds if it is BELIEVED so"
    private static void atomsNotKnown() {
        String[] texts = {"h0", "l06", "o20", "d2", "l00", "o10", "h4", "l46", "o04"};
        for (String text : texts) {
            BentTale tale = row();
            tale.thing(6, false);
            wish(tale, 1, 1, text);
            wish(tale, 1, 1, "!" + text);
            wish(tale, 1, 1, "!!" + text + "|" + text);
            tale.begin();
            is(text + " is not known", tale.holds(1, 0), 0);
            is("not " + text, tale.holds(1, 1), 1);
            is("not not " + text, tale.holds(1, 2), 0);
        }
        BentTale tale = row();
        tale.thing(6, false);
        tale.believe(1, false, 0, 2);
        tale.believe(1, true, 0, 6);
        wish(tale, 1, 1, "l02");
        wish(tale, 1, 1, "l06");
        wish(tale, 1, 1, "i4&!d0&!d1&!o00");
        tale.begin();
        is("wrongly believed", tale.holds(1, 0), 1);
        is("true, but not believed", tale.holds(1, 1), 0);
        is("itself it knows", tale.holds(1, 2), 1);
    }

    // "a row of one to four DEEDS"
    private static void plansHaveFourDeeds() {
        BentTale tale = row();
        tale.person(1, 0);
        tale.thing(6, false);
        tale.believe(1, false, 0, 3);
        wish(tale, 1, 1, "i4");
        wish(tale, 1, 1, "i5");
        wish(tale, 1, 1, "h0");
        wish(tale, 2, 1, "i4");
        tale.begin();
        is("four ways", tale.plan(1, 0, 0), 4);
        is("five ways", tale.plan(1, 1, 0), -2);
        is("three ways and a TAKE", tale.plan(1, 2, 0), 4);
        is("which is the last one", tale.plan(1, 2, 10), 2);
        is("its x", tale.plan(1, 2, 11), 0);
        is("it has no y", tale.plan(1, 2, 12), -3);
        is("one way", tale.plan(2, 0, 0), 1);
        is("its last number", tale.plan(2, 0, 2), 4);
        is("no y of it", tale.plan(2, 0, 3), -3);
        is("none behind it", tale.plan(2, 0, 4), -3);
        is("the one without a plan is left out", tale.wanted(1), 0);
        pause(tale);
        is("one way less", tale.plan(1, 0, 0), 3);
        is("four are left", tale.plan(1, 1, 0), 4);
        BentTale far = row();
        far.person(1, 0);
        far.thing(6, false);
        far.believe(1, false, 0, 4);
        wish(far, 1, 1, "h0");
        far.begin();
        is("four ways and a TAKE are five", far.plan(1, 0, 0), -2);
        is("it wants nothing", far.wanted(1), -2);
        pause(far);
        is("it waits", far.did(1, 1, 0), 0);
        is("for no wish", far.did(1, 1, 4), NONE);
    }

    // "of least PRICES together; of like ones of fewest DEEDS"
    private static void plansByPrice() {
        int[][] due = {{2, 1, 2}, {3, 1, 3}, {4, 3, 3}, {9, 3, 3}};
        for (int[] row : due) {
            BentTale tale = row();
            tale.person(1, 0);
            tale.person(2, 0);
            tale.thing(11, true);
            tale.price(5, row[0]);
            wish(tale, 1, 1, "d2|i3");
            tale.begin();
            is("deeds, a HIT for " + row[0], tale.plan(1, 0, 0), row[1]);
            is("prices, a HIT for " + row[0], tale.plan(1, 0, NONE), row[2]);
        }
        cheapInTwo(1, "i6|h0");
        cheapInTwo(2, "h0&h1|i5");
        cheapInTwo(3, "!h2&!h3|i5");
        cheapInTwo(4, "o22&o23|i5");
        cheapInTwo(5, "d2&d3|i5");
        BentTale dear = row();
        dear.person(1, 0);
        for (int kind = 1; kind <= 5; kind++) {
            dear.price(kind, 9);
        }
        wish(dear, 1, 1, "i4");
        dear.begin();
        is("the dearest plan", dear.plan(1, 0, NONE), 36);
    }

    // Two deeds of a cheap kind go ahead of one dear deed.
    private static void cheapInTwo(int cheap, String text) {
        BentTale tale = row();
        tale.person(2, 4);
        tale.person(3, 4);
        tale.thing(4, false);
        tale.thing(4, false);
        tale.thing(11, true);
        tale.thing(11, true);
        for (int kind = 1; kind <= 5; kind++) {
            tale.price(kind, kind == cheap ? 1 : 9);
        }
        wish(tale, 1, 1, text);
        tale.begin();
        is("deeds for " + text, tale.plan(1, 0, 0), 2);
        is("prices for " + text, tale.plan(1, 0, NONE), 2);
        is("the first kind for " + text, tale.plan(1, 0, 1), cheap);
        is("the second kind for " + text, tale.plan(1, 0, 4), cheap);
    }

    // "GIVE THING x, that it holds, to PERSON y in its ROOM"; "DROP THING x, that it holds: it lies in its ROOM"
    private static void plansOfGivingAndLaying() {
        int[][] ways = {{0, 1}, {1, 0}, {2, 3}, {5, 6}, {6, 5}};
        for (int[] way : ways) {
            for (int from = 0; from < 2; from++) {
                BentTale tale = row();
                tale.person(1, way[0]);
                tale.person(3, way[0]);
                tale.person(2, way[from]);
                tale.thing(way[1], false);
                tale.believe(1, false, 0, way[1]);
                tale.believe(1, true, 2, way[from]);
                wish(tale, 1, 1, "o20");
                wish(tale, 1, 1, "l0" + way[0]);
                wish(tale, 1, 1, "o00&o20|d0");
                tale.begin();
                is("fetch and give", tale.plan(1, 0, 0), from == 0 ? 4 : 3);
                is("GIVE at last", tale.plan(1, 0, from == 0 ? 10 : 7), 4);
                is("to 2", tale.plan(1, 0, from == 0 ? 12 : 9), 2);
                is("fetch and lay down", tale.plan(1, 1, 0), 4);
                is("DROP at last", tale.plan(1, 1, 10), 3);
                is("what can't be", tale.plan(1, 2, 0), -2);
            }
            BentTale held = row();
            held.person(1, way[0]);
            held.person(2, way[0]);
            held.thing(12, false);
            held.thing(11, true);
            wish(held, 1, 1, "l0" + way[0]);
            wish(held, 1, 1, "l0" + way[1]);
            wish(held, 1, 1, "h0");
            held.begin();
            is("HIT, and it lies there", held.plan(1, 0, 0), 1);
            is("HIT, TAKE, GO, DROP", held.plan(1, 1, 0), 4);
            is("HIT, TAKE", held.plan(1, 2, 0), 2);
        }
        BentTale unknown = row();
        unknown.thing(11, false);
        unknown.believe(1, true, 3, 5);
        wish(unknown, 1, 1, "o20");
        wish(unknown, 1, 1, "o30");
        unknown.begin();
        is("it does not know where 2 is", unknown.plan(1, 0, 0), -2);
        is("but where 3 is", unknown.plan(1, 1, 0), 2);
    }

    // "of like ones the least row (DEED by DEED: KIND, then x, then y)"
    private static void plansInOrder() {
        BentTale tale = row();
        for (int p = 1; p < 4; p++) {
            tale.person(p, 1);
        }
        tale.thing(1, false);
        tale.thing(1, false);
        tale.thing(11, false);
        wish(tale, 1, 1, "!i1|h0|!h2");
        wish(tale, 1, 1, "h1&h0");
        wish(tale, 1, 1, "!h2&!l21");
        wish(tale, 2, 1, "h1|h0");
        wish(tale, 3, 1, "i2&h1|i0&h1");
        tale.begin();
        is("GO goes ahead of TAKE and DROP", tale.plan(1, 0, 1), 1);
        is("to the lowest room", tale.plan(1, 0, 2), 0);
        is("the lowest thing first", tale.plan(1, 1, 2), 0);
        is("then the other", tale.plan(1, 1, 5), 1);
        is("GIVE", tale.plan(1, 2, 1), 4);
        is("its thing", tale.plan(1, 2, 2), 2);
        is("the lowest person", tale.plan(1, 2, 3), 2);
        is("the lowest thing of two", tale.plan(2, 0, 2), 0);
        is("TAKE it first", tale.plan(3, 0, 1), 2);
        is("this thing", tale.plan(3, 0, 2), 1);
        is("then to the lowest room", tale.plan(3, 0, 5), 0);
    }

    // "HIT needs a WEAPON that it would hold"
    private static void plansHitWithWhatTheyWouldHold() {
        BentTale tale = row();
        tale.person(1, 1);
        tale.person(2, 1);
        tale.thing(1, true);
        tale.thing(12, false);
        wish(tale, 1, 1, "d2");
        wish(tale, 1, 1, "h1");
        wish(tale, 2, 1, "d1&!h0");
        tale.begin();
        is("TAKE and HIT", tale.plan(1, 0, 0), 2);
        is("TAKE", tale.plan(1, 0, 1), 2);
        is("HIT", tale.plan(1, 0, 4), 5);
        is("TAKE, HIT and TAKE what it held", tale.plan(1, 1, 0), 3);
        is("the second TAKE", tale.plan(1, 1, 7), 2);
        is("of it", tale.plan(1, 1, 8), 1);
        is("TAKE, HIT and DROP", tale.plan(2, 0, 0), 3);
        is("DROP", tale.plan(2, 0, 7), 3);
        BentTale other = row();
        other.person(1, 1);
        other.person(2, 1);
        other.thing(1, false);
        other.thing(12, true);
        wish(other, 1, 1, "d2");
        other.begin();
        is("no weapon that it could hold", other.plan(1, 0, 0), -2);
    }

    // "the WISH holds at the end and not ahead of it"
    private static void plansEndWhereTheWishHolds() {
        BentTale tale = row();
        tale.person(1, 2);
        tale.price(4, 1);
        tale.price(3, 9);
        tale.thing(11, false);
        wish(tale, 1, 1, "!h0");
        wish(tale, 1, 1, "i2|i3|i4");
        wish(tale, 1, 1, "i2&h0");
        tale.believe(1, true, 2, 3);
        tale.begin();
        is("GO to 2 and GIVE", tale.plan(1, 0, 0), 2);
        is("for two", tale.plan(1, 0, NONE), 2);
        is("it holds already", tale.plan(1, 1, 0), NONE);
        is("so does this", tale.plan(1, 2, 0), NONE);
        pause(tale);
        is("it went, for it wants that", tale.where(1), 3);
        is("nobody is there, so it drops it", tale.plan(1, 0, 1), 3);
        is("that holds still", tale.plan(1, 1, 0), NONE);
        is("this does not: it goes back", tale.plan(1, 2, 2), 2);
    }

    // "from the greatest WEIGHT on (of like ones the lowest), the first for which there is a PLAN"
    private static void weightsDecide() {
        int[][] weights = {{1, 2, 3}, {3, 2, 1}, {2, 2, 2}, {1, 9, 9}, {1, 2, 1}, {5, 5, 6}};
        int[] due = {2, 0, 0, 1, 1, 2};
        for (int row = 0; row < 6; row++) {
            BentTale tale = row();
            for (int k = 0; k < 3; k++) {
                wish(tale, 1, weights[row][k], "i" + (k == 0 ? 5 : 3));
            }
            tale.begin();
            is("wanted of row " + row, tale.wanted(1), due[row]);
            pause(tale);
            is("went", tale.where(1), due[row] == 0 ? 5 : 3);
            is("for it", tale.did(1, 1, 4), due[row]);
        }
        int[][] orders = {{1, 2, 3}, {1, 3, 2}, {2, 1, 3}, {2, 3, 1}, {3, 1, 2}, {3, 2, 1}};
        for (int[] order : orders) {
            for (int planless = 3; planless >= 2; planless--) {
                BentTale tale = row();
                for (int k = 0; k < 3; k++) {
                    wish(tale, 1, order[k], order[k] >= planless ? "h" + k : "i" + (3 + 2 * (order[k] % 2)));
                }
                tale.begin();
                int wanted = tale.wanted(1);
                is("the next one", wanted >= 0 && wanted < 3 ? order[wanted] : wanted, planless - 1);
            }
        }
        BentTale tale = row();
        wish(tale, 1, 9, "i4");
        wish(tale, 1, 8, "h0");
        wish(tale, 2, 9, "h0");
        tale.begin();
        is("what holds is not wanted, nor what has no plan", tale.wanted(1), -2);
        is("no plan", tale.wanted(2), -2);
        is("no wish", tale.wanted(3), -2);
    }

    // "A TURN (60 at most)"; "NONE: 60 are over"
    private static void sixtyTurns() {
        BentTale tale = row();
        wish(tale, 1, 1, "i4&h0");
        tale.begin();
        for (int t = 1; t <= 60; t++) {
            is("turn", tale.turn(1, t % 2, NONE), t);
            is("over", tale.count(0), t);
            is("just now", tale.did(t, 0, 1), t % 2);
            is("not yet", tale.did(t + 1, 0, 0), NONE);
        }
        is("a WAIT behind 60", pause(tale), NONE);
        is("a GO behind 60", tale.turn(1, 1, NONE), NONE);
        is("what can't be done behind 60", tale.turn(1, 5, NONE), NONE);
        is("60 are over", tale.count(0), 60);
        is("60 events", tale.count(8), 60);
        is("the last one", tale.did(60, 0, 1), 0);
        is("none behind it", tale.did(61, 0, 0), NONE);
        is("otherwise in the last", tale.otherwise(60), 0);
        is("none otherwise behind it", tale.otherwise(61), NONE);
        is("surprise in the last", tale.surprise(60), 0);
        is("none behind it, too", tale.surprise(61), NONE);
        is("check the last", tale.check(60, 0), 0);
        is("none to check behind it", tale.check(61, 0), -2);
    }

    // "(TURNS behind the 60th are played, too.)"
    private static void behindTheSixtieth() {
        BentTale tale = row();
        law(tale, "eg...,62");
        law(tale, "rg...,t...,1");
        wish(tale, 1, 1, "i4");
        tale.begin();
        for (int t = 1; t <= 60; t++) {
            pause(tale);
        }
        is("kept for none", tale.kept(0), 1);
        is("kept for one: in 61 nothing is broken", tale.kept(1), 1);
        is("not for two: WAITING breaks one law, and GO the other", tale.kept(2), 0);
        is("loses in two", tale.loses(), 2);
        is("meek it is broken in the second", tale.made(0, 0, 20, 0), 2);
        is("not in the first", tale.made(0, 0, 1, 0), NONE);
        is("the teller may act behind the 60th", tale.shift(1, 3), 3);
        is("once", tale.shift(1, 4), NONE);
        is("it would go back", tale.made(0, 0, 1, 2), 1);
        is("owed is what nobody will do", tale.made(0, 0, 2, 0), 2);
        is("nothing of it is so", tale.count(0) + tale.count(8), 60);
    }

    // "Behind a TURN the teller may act, once"; "NONE: it can't, it acted already, no TURN is over"
    private static void tellerActsOnce() {
        BentTale tale = row();
        tale.hidden(2 + 4 + 8, false);
        tale.hidden(2 + 4 + 8, false);
        tale.begin();
        is("no turn is over", tale.settle(0, 1), NONE);
        is("nor for a shift", tale.shift(3, 5), NONE);
        pause(tale);
        is("settle", tale.settle(0, 1), 2);
        is("no second settle", tale.settle(1, 1), NONE);
        is("no shift", tale.shift(3, 5), NONE);
        pause(tale);
        is("shift", tale.shift(3, 5), 3);
        is("no second shift", tale.shift(3, 6), NONE);
        is("no settle", tale.settle(1, 1), NONE);
        is("a turn that can't be done is none", tale.turn(7, 0, 0), -2);
        is("so still", tale.settle(1, 1), NONE);
        pause(tale);
        pause(tale);
        is("behind any turn", tale.settle(1, 1), 4);
        is("pushing", tale.count(4), 9);
    }

    // "A call that is refused (NONE, false) changes nothing"
    private static void refusedCallsChangeNothing() {
        BentTale tale = row();
        tale.hidden(2 + 4 + 8, false);
        wish(tale, 1, 1, "i5");
        tale.begin();
        tale.shift(1, 3);
        pause(tale);
        is("it went", tale.where(1), 5);
        int[][] settles = {{0, 0}, {0, 4}, {0, 7}, {0, NONE}, {1, 1}, {NONE, 1}, {5, 1}, {LEAST, 1}, {0, GREATEST}};
        for (int[] settle : settles) {
            is("settle " + settle[0] + " in " + settle[1], tale.settle(settle[0], settle[1]), NONE);
        }
        int[][] shifts = {{0, 1}, {1, 5}, {1, 3}, {1, 7}, {1, NONE}, {4, 5}, {NONE, 4}, {LEAST, 4}, {3, GREATEST}};
        for (int[] shift : shifts) {
            is("shift " + shift[0] + " to " + shift[1], tale.shift(shift[0], shift[1]), NONE);
        }
        is("a turn", tale.turn(1, 2, NONE), -2);
        is("it is hidden", tale.count(20), 14);
        is("no pushing", tale.count(4), 0);
        is("no settles", tale.count(5), 0);
        is("no shifts", tale.count(6), 0);
        is("one turn", tale.count(0), 1);
        is("one event", tale.count(8), 1);
        is("the teller may act still", tale.settle(0, 3), 2);
    }

    // "SHIFT a FOLK not DEAD by a DOOR to another ROOM, if the STRANGER is in neither (or DEAD)"
    private static void shiftsByDoors() {
        BentTale tale = row();
        tale.person(1, 0);
        tale.person(2, 1);
        tale.person(3, 3);
        tale.begin();
        pause(tale);
        is("from the stranger's room", tale.shift(1, 1), NONE);
        is("to the stranger's room", tale.shift(2, 0), NONE);
        is("to its own room", tale.shift(2, 1), NONE);
        is("by no door", tale.shift(2, 3), NONE);
        is("to where another one is", tale.shift(3, 2), 3);
        is("there it is", tale.where(3), 2);
        pause(tale);
        is("to a folk", tale.shift(2, 2), 6);
        is("they see one another", tale.believes(2, true, 3), 2);
        is("both", tale.believes(3, true, 2), 2);
    }

    // "the price of a SETTLE is 2, of a SHIFT 3, times how many of that sort were done with this one; all together"
    private static void pricesRise() {
        BentTale tale = row();
        for (int x = 0; x < 5; x++) {
            tale.hidden(2 + 4 + 8, false);
        }
        tale.begin();
        int pushing = 0;
        for (int i = 1; i <= 5; i++) {
            pause(tale);
            is("settle " + i, tale.settle(i - 1, 2), 2 * i);
            pause(tale);
            is("shift " + i, tale.shift(3, 6 - i % 2), 3 * i);
            pushing += 5 * i;
            is("pushing", tale.count(4), pushing);
            is("settles", tale.count(5), i);
            is("shifts", tale.count(6), i);
        }
    }

    // "nE no EVENT is like E"
    private static void none() {
        BentTale tale = row();
        law(tale, "ng0..");
        law(tale, "ng1..");
        wish(tale, 1, 1, "i5&h0|i5");
        tale.begin();
        pause(tale);
        is("kept", tale.keeps(0), 0);
        is("broken by a folk", tale.keeps(1), 2);
        is("in turn 1", tale.broken(1), 1);
        pause(tale);
        tale.turn(1, 1, NONE);
        is("broken by the stranger", tale.keeps(0), 2);
        is("in turn 3", tale.broken(0), 3);
        tale.turn(1, 0, NONE);
        is("in turn 3 still", tale.broken(0), 3);
    }

    // "aE,F no EVENT is like F as long as none ahead of it was like E"
    private static void noneAhead() {
        BentTale tale = row();
        law(tale, "ag0..,g1..");
        law(tale, "ag1..,g0..");
        law(tale, "ag0..,g0..");
        law(tale, "ag0..,g.0.");
        law(tale, "at...,d...");
        wish(tale, 1, 1, "i5");
        tale.begin();
        tale.turn(1, 1, NONE);
        is("one ahead of it in its turn", tale.keeps(0), 0);
        is("one behind it in its turn", tale.keeps(1), 2);
        is("itself is not ahead of it", tale.keeps(2), 2);
        is("none yet", tale.keeps(3), 0);
        tale.turn(1, 0, NONE);
        is("one in a turn ahead of it", tale.keeps(3), 0);
        is("for good", tale.broken(2), 1);
        is("neither came", tale.keeps(4), 0);
    }

    // "rE,F,N behind each EVENT like E comes one like F, in its TURN (behind it) or one of the N next ones"
    private static void owedBehind() {
        BentTale tale = row();
        law(tale, "rg0..,g1..,0");
        law(tale, "rg1..,g0..,0");
        law(tale, "rg1..,g0..,1");
        law(tale, "rg1..,g0..,2");
        law(tale, "rg1..,g0..,99");
        law(tale, "rt...,d...,0");
        wish(tale, 1, 1, "i5");
        tale.begin();
        tale.turn(1, 1, NONE);
        int[][] due = {{0, 2, 1, 1, 1, 0}, {0, 2, 2, 1, 1, 0}, {0, 2, 2, 0, 0, 0}};
        for (int i = 0; i < 6; i++) {
            is("behind turn 1 law " + i, tale.keeps(i), due[0][i]);
        }
        pause(tale);
        for (int i = 0; i < 6; i++) {
            is("behind turn 2 law " + i, tale.keeps(i), due[1][i]);
        }
        is("in its turn", tale.broken(1), 1);
        is("in the next one", tale.broken(2), 2);
        is("not in the third", tale.broken(3), NONE);
        tale.turn(1, 2, NONE);
        is("the second g0 has no g1 behind it", tale.keeps(0), 2);
        for (int i = 1; i < 6; i++) {
            is("behind turn 3 law " + i, tale.keeps(i), due[2][i]);
        }
    }

    private static void owedTwice() {
        BentTale tale = row();
        tale.thing(0, false);
        tale.thing(0, false);
        law(tale, "rt...,d...,2");
        law(tale, "rt...,d...,3");
        law(tale, "rt...,t...,1");
        law(tale, "rd...,d...,0");
        tale.begin();
        tale.turn(2, 0, NONE);
        tale.turn(2, 1, NONE);
        is("two are owed", tale.keeps(0), 1);
        is("the second owes a third", tale.keeps(2), 1);
        pause(tale);
        is("the first came too late", tale.broken(0), 3);
        is("time for one", tale.keeps(1), 1);
        is("no third", tale.broken(2), 3);
        tale.turn(3, 0, NONE);
        is("one is enough for both", tale.keeps(1), 0);
        is("it is not behind itself", tale.broken(3), 4);
        pause(tale);
        pause(tale);
        is("kept since", tale.keeps(1), 0);
    }

    // "eE,N an EVENT like E comes, in TURN N at last"; "TURNS are counted from 1 on"
    private static void owedAtLast() {
        BentTale tale = row();
        law(tale, "eg...,1");
        law(tale, "eg...,2");
        law(tale, "eg...,3");
        law(tale, "eg...,03");
        law(tale, "eg...,99");
        law(tale, "eg...,1;eg...,0");
        tale.begin();
        for (int i = 0; i < 6; i++) {
            is("owed", tale.keeps(i), 1);
            is("not broken", tale.broken(i), NONE);
        }
        pause(tale);
        is("too late for 1", tale.broken(0), 1);
        is("not for 2", tale.keeps(1), 1);
        is("too late for 0 and 1", tale.broken(5), 1);
        tale.turn(1, 1, NONE);
        for (int i = 1; i < 5; i++) {
            is("it came", tale.keeps(i), 0);
        }
        is("too late all the same", tale.keeps(0), 2);
        pause(tale);
        pause(tale);
        is("it came in time", tale.keeps(2), 0);
        BentTale at = row();
        law(at, "eg...,1");
        at.begin();
        at.turn(1, 1, NONE);
        is("in turn 1 at last", at.keeps(0), 0);
    }

    // "BROKEN (for good)"; "A LAW is BROKEN if one of its CLAUSES is, else OWED if one is, else KEPT"
    private static void brokenForGood() {
        BentTale tale = row();
        law(tale, "eg0..,1;eg1..,3");
        law(tale, "eg0..,9;ng1..");
        law(tale, "eg0..,2;eg1..,1;eg2..,9");
        law(tale, "ng2..;ng3..;nt...;nd...");
        tale.begin();
        is("owed of two", tale.keeps(0), 1);
        is("owed of one", tale.keeps(1), 1);
        is("kept of four", tale.keeps(3), 0);
        pause(tale);
        is("broken though one is owed", tale.keeps(0), 2);
        is("by the first", tale.broken(0), 1);
        is("by the second", tale.broken(2), 1);
        tale.turn(1, 1, NONE);
        is("what came too late mends nothing", tale.keeps(0), 2);
        is("kept, it came", tale.keeps(1), 0);
        pause(tale);
        is("the first time counts", tale.broken(0), 1);
        is("and here", tale.broken(2), 1);
        is("kept to the end", tale.keeps(3), 0);
    }

    // "three signs: who, x, y: each a digit (0 to 6) or . (whatever)"
    private static void signsOfEvents() {
        BentTale tale = row();
        tale.person(1, 0);
        tale.thing(10, true);
        law(tale, "nv001;nv002");
        law(tale, "nv1..;nv.1.;nv..0;nv...u");
        law(tale, "nd...;nt...;nh...;nl...");
        law(tale, "ng.1.");
        law(tale, "ng.10;ng.16;ng6..;ng.6.");
        law(tale, "nv0..");
        tale.begin();
        tale.turn(4, 0, 1);
        is("by all signs", tale.keeps(0), 2);
        is("by none of these", tale.keeps(1), 0);
        is("another kind", tale.keeps(2), 0);
        is("whatever", tale.keeps(5), 2);
        tale.turn(1, 1, NONE);
        is("GO to 1", tale.keeps(3), 2);
        is("GO has no y that a digit fits", tale.keeps(4), 0);
    }

    private static void signsOfY() {
        for (int y = 1; y < 4; y++) {
            BentTale tale = row();
            for (int p = 1; p < 4; p++) {
                tale.person(p, 0);
            }
            for (int x = 0; x < 5; x++) {
                tale.thing(10, false);
            }
            for (int sign = 1; sign < 4; sign++) {
                law(tale, "nv0." + sign);
            }
            law(tale, "nv..." + "u");
            law(tale, "nv.0.;nv.1.;nv.2.;nv.3.");
            law(tale, "nv.4" + y);
            tale.begin();
            tale.turn(4, 4, y);
            for (int sign = 1; sign < 4; sign++) {
                is("given to " + y + ", not to " + sign, tale.keeps(sign - 1), sign == y ? 2 : 0);
            }
            is("it was seen", tale.keeps(3), 0);
            is("of the other things", tale.keeps(4), 0);
            is("of this thing", tale.keeps(5), 2);
        }
    }

    // "behind them, if wanted, u: nobody SAW it"
    private static void unseenOnes() {
        BentTale tale = row();
        tale.thing(0, false);
        tale.thing(1, false);
        tale.person(1, 1);
        law(tale, "nt...u");
        law(tale, "nt.1.u");
        law(tale, "et...,3");
        law(tale, "et.1.u,3");
        law(tale, "ag...u,t.1.");
        tale.begin();
        tale.turn(2, 0, NONE);
        is("nobody saw it", tale.broken(0), 1);
        is("it came", tale.keeps(2), 0);
        tale.turn(1, 1, NONE);
        tale.turn(2, 1, NONE);
        is("1 saw it", tale.keeps(1), 0);
        is("one that nobody saw did not come", tale.broken(3), 3);
        is("a GO that nobody saw was not ahead of it", tale.broken(4), 3);
    }

    // "KEPT WHATEVER for so many TURNS (0 to 2)"
    private static void keptByNone() {
        BentTale tale = row();
        tale.begin();
        for (int turns = 0; turns <= 2; turns++) {
            is("no law", tale.kept(turns), 1);
        }
        for (int turns : new int[] {LEAST, -1, 3, 4, GREATEST}) {
            is("kept for " + turns, tale.kept(turns), NONE);
            is("answer for " + turns, tale.answer(turns, 0), NONE);
        }
        is("no answer for 0", tale.answer(0, 0), NONE);
        for (int what : new int[] {LEAST, -1, 4, 5, GREATEST}) {
            is("what " + what, tale.answer(1, what), NONE);
        }
        is("not in two", tale.loses(), 3);
        int[] due = {0, NONE, NONE, 0};
        for (int what = 0; what < 4; what++) {
            is("none, what " + what, tale.answer(1, what), due[what]);
            is("none for two, what " + what, tale.answer(2, what), due[what]);
        }
    }

    // "whatever DEED the STRANGER does", also one that changes nothing that is
    private static void keptByTelling() {
        String[] laws = {"nl...", "ng1..", "nl02.", "al00.,g1..", "el...,1"};
        int[] due = {1, 1, 3, 1, 1};
        for (int i = 0; i < laws.length; i++) {
            BentTale tale = row();
            tale.person(0, 4);
            tale.thing(11, false);
            tale.thing(3, false);
            wish(tale, 1, 1, "h1");
            law(tale, laws[i]);
            tale.begin();
            is("by what the stranger can tell: " + laws[i], tale.loses(), due[i]);
        }
    }

    // "LAWS OF THE TALE 0 to 5", "CLAUSES (4 at most)": each of them is looked at, the last of the last, too
    private static void keptByEachClause() {
        for (int i = 0; i < 6; i++) {
            for (int c = 0; c < 4; c++) {
                String which = "clause " + c + " of law " + i;
                BentTale goes = withClause(i, c, "rg0..,t0..,1");
                is("none is owed: " + which, goes.keeps(i), 0);
                goes.turn(1, 1, NONE);
                is("owed: " + which, goes.keeps(i), 1);
                is("by waiting: " + which, goes.made(0, 0, 1, 0), 1);
                is("by waiting, too: " + which, goes.kept(1), 0);
                is("by what is played anew: " + which, goes.otherwise(1), 0);
                is("still owed: " + which, goes.keeps(i), 1);
                pause(goes);
                is("broken: " + which, goes.broken(i), 2);
                BentTale tells = withClause(i, c, "rl0..,g0..,0");
                is("by telling what is known: " + which, tells.loses(), 1);
                is("not by waiting: " + which, tells.made(0, 0, 20, 0), NONE);
            }
        }
    }

    /** Six laws of four clauses, all but one of them of what never comes; the stranger is with one folk and a thing. */
    private static BentTale withClause(int i, int c, String clause) {
        BentTale tale = row();
        tale.person(2, 0);
        tale.thing(0, false);
        for (int j = 0; j < 6; j++) {
            StringBuilder text = new StringBuilder();
            for (int d = 0; d < 4; d++) {
                text.append(d == 0 ? "" : ";").append(j == i && d == c ? clause : "nh666");
            }
            is("law " + j, law(tale, text.toString()), j);
        }
        tale.begin();
        return tale;
    }

    // "SHIFT a FOLK not DEAD by a DOOR to another ROOM": there is none beyond 6 by which a law could be kept
    private static void keptByNoRoomBeyond() {
        BentTale tale = new BentTale();
        int[] rooms = {6, 0, 5, 5};
        for (int p = 0; p < 4; p++) {
            tale.person(p, rooms[p]);
        }
        tale.door(0, 1);
        tale.door(1, 2);
        tale.thing(0, false);
        wish(tale, 1, 1, "h0&i2");
        law(tale, "ng1..");
        tale.begin();
        is("it takes", pause(tale), 1);
        is("it will go, SHIFTED or not", tale.kept(1), 0);
        is("no answer", tale.answer(1, 0), -2);
    }

    // "(If the teller acted already behind this TURN: none. Ahead of the first TURN: none.)"
    private static void keptByActs() {
        BentTale ahead = quiet();
        law(ahead, "eg...,1");
        ahead.begin();
        is("nobody goes, and none can act", ahead.kept(1), 0);
        is("no answer", ahead.answer(1, 0), -2);
        is("loses", ahead.loses(), 1);
        is("it can't", ahead.shift(1, 6), NONE);
        for (int acted = 0; acted < 2; acted++) {
            BentTale tale = quiet();
            law(tale, "eg...,2");
            tale.begin();
            is("the teller will act", tale.kept(2), 1);
            is("not yet", tale.answer(2, 0), 0);
            pause(tale);
            if (acted == 1) {
                is("an act that helps nothing", tale.shift(3, 2), 3);
            }
            is("kept for one", tale.kept(1), 1 - acted);
            is("kept for two", tale.kept(2), 1 - acted);
            is("kept for none", tale.kept(0), 1);
            is("loses", tale.loses(), acted == 0 ? 3 : 1);
            is("answer", tale.answer(1, 0), acted == 0 ? 2 : -2);
            is("answer for two", tale.answer(2, 3), acted == 0 ? 3 : -2);
            is("but what 4", tale.answer(2, 4), NONE);
        }
        BentTale helped = quiet();
        law(helped, "eg...,2");
        helped.begin();
        pause(helped);
        helped.shift(2, 0);
        is("by what was done already", helped.kept(1), 1);
        is("none more is needed", helped.answer(1, 0), 0);
    }

    // "of like ones none, then SETTLE by THING and ROOM, then SHIFT by FOLK and ROOM"
    private static void answersByNumbers() {
        BentTale tale = quiet();
        law(tale, "eg...,2");
        tale.begin();
        pause(tale);
        int[] due = {2, 1, 6, 3};
        for (int what = 0; what < 4; what++) {
            is("by folk, not by room: what " + what, tale.answer(1, what), due[what]);
        }
        for (int crossed = 0; crossed < 2; crossed++) {
            BentTale other = new BentTale();
            int[] rooms = {6, 1, 4, 6};
            for (int p = 0; p < 4; p++) {
                other.person(p, rooms[p]);
            }
            other.door(1, 2);
            other.door(4, 3);
            other.hidden(4 + 8 + 32, false);
            other.hidden(4 + 8 + 32, false);
            other.thing(11, false);
            other.thing(12, false);
            other.believe(1, false, crossed, 2);
            other.believe(2, false, 0, 3);
            wish(other, 1, 9, "!h2");
            wish(other, 1, 1, "h" + crossed);
            wish(other, 2, 9, "!h3");
            wish(other, 2, 1, "h0");
            law(other, "et...,3");
            other.begin();
            pause(other);
            is("for one none is needed", other.answer(1, 0), 0);
            int[] settle = {1, 0, 2 + crossed, 2};
            for (int what = 0; what < 4; what++) {
                is("by thing, then by room: what " + what, other.answer(2, what), settle[what]);
            }
        }
    }

    // "of least price"; a SETTLE and a SHIFT for 6 each. Folk 1 goes from 4 by 0, 1 and 2 to seek thing 0 in 3; folk 2
    // would take thing 3 in room 1, if it were there.
    private static void answersOfLikePrice() {
        BentTale tale = new BentTale();
        int[] rooms = {4, 4, 6, 6};
        for (int p = 0; p < 4; p++) {
            tale.person(p, rooms[p]);
        }
        int[] way = {4, 0, 1, 2, 3};
        for (int i = 1; i < 5; i++) {
            tale.door(way[i - 1], way[i]);
        }
        tale.door(6, 1);
        for (int x = 0; x < 3; x++) {
            tale.hidden(8 + 32, false);
        }
        tale.thing(11, false);
        tale.thing(12, false);
        tale.believe(1, false, 0, 3);
        tale.price(1, 9);
        wish(tale, 1, 9, "l31");
        wish(tale, 1, 1, "h0");
        wish(tale, 2, 9, "!i1|!h4");
        wish(tale, 2, 1, "h3");
        law(tale, "et...,6");
        tale.begin();
        pause(tale);
        is("a settle", tale.settle(1, 5), 2);
        pause(tale);
        is("another", tale.settle(2, 5), 4);
        pause(tale);
        is("a shift", tale.shift(3, 1), 3);
        pause(tale);
        is("it is on its way", tale.where(1), 2);
        is("for one none is needed", tale.answer(1, 0), 0);
        int[] due = {1, 0, 3, 6};
        for (int what = 0; what < 4; what++) {
            is("of like price SETTLE: what " + what, tale.answer(2, what), due[what]);
        }
        is("though a SHIFT would do", tale.shift(2, 1), 6);
        is("it does", tale.kept(2), 1);
    }

    // "In how many TURNS at least (1, 2)"; "0: one is; 3: not in two"
    private static void losesInOneOrTwo() {
        String[] laws = {"ng01.", "ng02.", "ng03.", "eg1..,2", "eg1..,1", "eg1..,3"};
        int[] due = {1, 2, 3, 2, 1, 3};
        for (int i = 0; i < laws.length; i++) {
            BentTale tale = row();
            law(tale, laws[i]);
            tale.begin();
            is("loses by " + laws[i], tale.loses(), due[i]);
            is("kept for one", tale.kept(1), due[i] > 1 ? 1 : 0);
            is("kept for two", tale.kept(2), due[i] > 2 ? 1 : 0);
        }
        BentTale tale = row();
        law(tale, "ng01.");
        tale.begin();
        tale.turn(1, 1, NONE);
        is("one is", tale.loses(), 0);
        for (int turns = 0; turns <= 2; turns++) {
            is("kept no more", tale.kept(turns), 0);
        }
        is("no answer", tale.answer(2, 0), -2);
    }

    // "the teller acting the same (not at all where it can't)"
    private static void otherwiseTheTellerCant() {
        BentTale tale = row();
        tale.person(0, 4);
        wish(tale, 1, 1, "i4");
        tale.begin();
        tale.turn(1, 3, NONE);
        is("shift", tale.shift(1, 5), 3);
        pause(tale);
        is("it goes back", tale.did(2, 1, 1), 4);
        is("had the stranger stayed, it were not shifted", tale.otherwise(1), 1);
        is("the second was a WAIT", tale.otherwise(2), 0);
        is("nothing of it is so", tale.where(0), 3);
        is("pushing stays", tale.count(4), 3);
        for (int t : new int[] {LEAST, -1, 0, 3, 61, GREATEST}) {
            is("otherwise " + t, tale.otherwise(t), NONE);
        }
        BentTale other = row();
        other.thing(0, false);
        other.person(1, 0);
        other.believe(1, true, 2, 0);
        wish(other, 1, 1, "h0");
        other.begin();
        other.turn(2, 0, NONE);
        other.turn(4, 0, 1);
        other.turn(1, 1, NONE);
        is("it would have taken it itself", other.otherwise(1), 1);
        is("it would not have got it", other.otherwise(2), 0);
    }

    // "but else doing the same DEEDS"
    private static void otherwiseTheSameDeeds() {
        for (int y = 1; y < 4; y++) {
            BentTale tale = row();
            for (int p = 1; p < 4; p++) {
                tale.person(p, 0);
                wish(tale, p, 1, "h1&i1");
            }
            tale.thing(10, false);
            tale.thing(10, false);
            tale.begin();
            pause(tale);
            tale.turn(4, 1, y);
            tale.turn(4, 0, y % 3 + 1);
            tale.turn(1, 1, NONE);
            is("it went with what was given", tale.did(2, y, 0), 1);
            is("but for a WAIT all is the same", tale.otherwise(1), 0);
            is("but for the GIVE it would not have gone", tale.otherwise(2), 1);
            is("the other thing is no matter", tale.otherwise(3), 0);
            is("nor is the GO", tale.otherwise(4), 0);
            is("y is told", tale.did(2, 0, 2), y);
            for (int what : new int[] {LEAST, -2, -1, 5, 6, GREATEST}) {
                is("of a GIVE, what " + what, tale.did(2, 0, what), NONE);
            }
        }
    }

    // "(WAITING, too, where one can't be done)"
    private static void otherwiseWhatCantBeDone() {
        BentTale tale = row();
        tale.person(1, 2);
        tale.thing(10, false);
        wish(tale, 1, 1, "o00&i3");
        tale.begin();
        tale.turn(1, 1, NONE);
        tale.turn(1, 2, NONE);
        is("it saw the stranger, and went", tale.did(2, 1, 0), 1);
        pause(tale);
        is("from room 0 the stranger can't GO to 2", tale.otherwise(1), 1);
        is("nor does it come, if it waits then", tale.otherwise(2), 1);
        is("it waited", tale.otherwise(3), 0);
        BentTale dropped = row();
        dropped.person(1, 1);
        dropped.thing(0, false);
        wish(dropped, 1, 1, "h0");
        dropped.begin();
        dropped.turn(2, 0, NONE);
        dropped.turn(1, 1, NONE);
        dropped.turn(3, 0, NONE);
        is("it takes what was dropped", dropped.lies(0), 11);
        is("what was not taken is not dropped", dropped.otherwise(1), 1);
        is("nor dropped elsewhere found", dropped.otherwise(2), 1);
        is("nor taken when it is held", dropped.otherwise(3), 1);
    }

    // "(or none being DEAD)"
    private static void otherwiseTheDead() {
        BentTale tale = row();
        tale.person(1, 0);
        tale.thing(10, true);
        tale.begin();
        pause(tale);
        tale.turn(5, 1, NONE);
        pause(tale);
        pause(tale);
        is("alive it would have waited three times", tale.otherwise(2), 3);
        is("dead all the same", tale.otherwise(3), 0);
        is("needless: 0 does the same", tale.needless(2), 1);
    }

    // "NEEDLESS is a FOLK, if without it (it WAITS always) all other PERSONS do just the same in each TURN"
    private static void needlessOnes() {
        BentTale tale = row();
        tale.thing(4, true);
        wish(tale, 1, 1, "i5&h0");
        wish(tale, 2, 1, "h0");
        tale.begin();
        for (int p = 1; p < 4; p++) {
            is("no turn is over", tale.needless(p), 1);
        }
        for (int p : new int[] {LEAST, -1, 0, 4, GREATEST}) {
            is("needless " + p, tale.needless(p), NONE);
        }
        pause(tale);
        pause(tale);
        is("it took it and came", tale.where(1), 5);
        is("2 has done nothing yet", tale.needless(1), 1);
        pause(tale);
        is("nor can it", tale.did(3, 2, 0), 0);
        is("3", tale.needless(3), 1);
        BentTale other = row();
        other.thing(4, false);
        wish(other, 1, 1, "l05");
        wish(other, 1, 1, "o20&i4");
        wish(other, 2, 1, "h0");
        other.begin();
        for (int t = 0; t < 4; t++) {
            pause(other);
        }
        is("2 takes what 1 brought", other.lies(0), 12);
        is("so 1 is needed", other.needless(1), 0);
        is("and so is 2: but for it 1 would not have gone", other.needless(2), 0);
        is("3 is not", other.needless(3), 1);
    }

    // "for so many TURNS (1 to 20)"; "X is a seed (0 to 65535)"; "A MADE STRANGER (0 to 2)"
    private static void madeNumbers() {
        BentTale tale = row();
        law(tale, "eg...,20");
        tale.begin();
        for (int wrong : new int[] {LEAST, -1, GREATEST}) {
            is("sort " + wrong, tale.made(wrong, 0, 1, 0), NONE);
            is("seed " + wrong, tale.made(1, wrong, 1, 2), NONE);
            is("turns " + wrong, tale.made(0, 0, wrong, 2), NONE);
            is("what " + wrong, tale.made(0, 0, 1, wrong), NONE);
        }
        is("sort 3", tale.made(3, 0, 1, 2), NONE);
        is("turns 0", tale.made(0, 0, 0, 2), NONE);
        is("turns 21", tale.made(0, 0, 21, 2), NONE);
        is("what 3", tale.made(0, 0, 1, 3), NONE);
        for (int sort = 0; sort < 3; sort++) {
            is("seed 65536", tale.made(sort, 65536, 1, 2), NONE);
            is("seed 65535, dead", tale.made(sort, 65535, 1, 1), 0);
            is("seed 0, dead", tale.made(sort, 0, 20, 1), 0);
        }
        is("20 turns", tale.made(0, 0, 20, 0), 20);
        is("19 turns", tale.made(0, 0, 19, 0), NONE);
        for (int t = 1; t < 20; t++) {
            pause(tale);
            is("of those played", tale.made(0, 0, 20, 0), 20 - t);
        }
        pause(tale);
        is("one is already", tale.made(0, 0, 1, 0), 0);
        is("nothing of it is so", tale.count(8), 0);
    }

    // "each TURN X becomes (25173 X and 13849) modulo 65536, the DEED X modulo how many there are"
    private static void madeByLot() {
        for (int seed : new int[] {0, 1, 2, 3, 5, 77, 32767, 32768, 65534, 65535}) {
            BentTale tale = row();
            tale.thing(0, false);
            law(tale, "nt...");
            law(tale, "ng...");
            tale.begin();
            long lot = (25173L * seed + 13849) % 65536;
            // It can WAIT, GO 1, TAKE 0.
            int events = lot % 3 == 0 ? 0 : 1;
            is("an event of seed " + seed, tale.made(1, seed, 1, 2), events);
            is("a law of seed " + seed, tale.made(1, seed, 1, 0), events == 0 ? NONE : 1);
            is("as the cruel one", tale.made(2, seed, 1, 2), events);
            is("meek", tale.made(0, seed, 1, 2), 0);
            lot = (25173L * lot + 13849) % 65536;
            // In room 1 it can WAIT, GO 0, GO 2; without having gone WAIT, GO 1 and TAKE 0 or DROP 0.
            events += lot % 3 == 0 ? 0 : 1;
            is("two turns of seed " + seed, tale.made(1, seed, 2, 2), events);
        }
    }

    // "2 CRUEL: the first HIT that it can, else as MAD (X goes on each TURN)"
    private static void madeCruel() {
        BentTale tale = row();
        for (int p = 1; p < 4; p++) {
            tale.person(p, 0);
        }
        tale.thing(10, true);
        law(tale, "nh02.;nh03.");
        law(tale, "ah01.,h02.;ah02.,h03.");
        tale.begin();
        is("the lowest first", tale.made(2, 0, 1, 0), NONE);
        is("then the next", tale.made(2, 0, 2, 0), 2);
        for (int turns = 1; turns <= 3; turns++) {
            is("dead behind " + turns, tale.made(2, 9, turns, 1), turns);
            is("events behind " + turns, tale.made(2, 9, turns, 2), turns);
        }
        // Behind three HITS it can WAIT, GO 1, DROP 0.
        long lot = 9;
        for (int t = 1; t <= 4; t++) {
            lot = (25173 * lot + 13849) % 65536;
        }
        is("then as MAD", tale.made(2, 9, 4, 2), lot % 3 == 0 ? 3 : 4);
        is("all live still", tale.where(1) + tale.where(2) + tale.where(3), 0);
    }

    // "(WAIT counts; of like ones the lowest; none in TURN 1)"
    private static void surpriseInOrder() {
        BentTale tale = row();
        tale.person(0, 1);
        for (int p = 1; p < 4; p++) {
            tale.person(p, 0);
            wish(tale, p, 1, "i2");
        }
        tale.thing(10, true);
        tale.begin();
        pause(tale);
        is("in turn 1 none", tale.surprise(1), 0);
        is("one is hit", tale.turn(5, 1, NONE), 2);
        is("the others go on", tale.surprise(2), 0);
        pause(tale);
        is("two wait, for they are there", tale.surprise(3), 2);
        pause(tale);
        is("they went most often", tale.surprise(4), 2);
        pause(tale);
        is("of like ones the lowest", tale.surprise(5), 0);
        for (int t : new int[] {LEAST, -1, 0, 6, GREATEST}) {
            is("surprise " + t, tale.surprise(t), NONE);
        }
        BentTale even = row();
        even.hidden(2 + 4, false);
        wish(even, 1, 1, "i3");
        even.begin();
        int[] due = {0, 1, 0, 0};
        for (int t = 0; t < 4; t++) {
            pause(even);
            is("turn " + (t + 1), even.surprise(t + 1), due[t]);
        }
    }

    // "NONE: none is told there, it was DEAD, no such ones"
    private static void didOfTheDead() {
        BentTale tale = row();
        tale.person(1, 0);
        tale.person(2, 0);
        tale.thing(12, true);
        wish(tale, 2, 7, "d3");
        wish(tale, 2, 8, "d1");
        wish(tale, 1, 1, "i1");
        tale.begin();
        pause(tale);
        is("1 acts ahead of 2", tale.did(1, 1, 0), 1);
        is("2 finds it gone", tale.did(1, 2, 0), 0);
        for (int what : new int[] {LEAST, -1, 5, 6, GREATEST}) {
            is("what " + what, tale.did(1, 1, what), NONE);
        }
        for (int t : new int[] {LEAST, -1, 0, 2, 61, GREATEST}) {
            is("turn " + t, tale.did(t, 1, 0), NONE);
        }
        BentTale other = row();
        other.person(2, 0);
        other.person(3, 0);
        other.thing(12, true);
        wish(other, 2, 7, "d3");
        wish(other, 2, 6, "h3");
        wish(other, 3, 7, "i1");
        other.begin();
        pause(other);
        is("2 hits", other.did(1, 2, 0), 5);
        is("whom", other.did(1, 2, 1), 3);
        is("no y", other.did(1, 2, 2), NONE);
        is("the stranger saw it", other.did(1, 2, 3), 1);
        is("for wish 0", other.did(1, 2, 4), 0);
        for (int what = 0; what < 5; what++) {
            is("the dead one did nothing, what " + what, other.did(1, 3, what), NONE);
        }
        int[] waited = {0, NONE, NONE, NONE, NONE};
        for (int what = 0; what < 5; what++) {
            is("the stranger waited, what " + what, other.did(1, 0, what), waited[what]);
        }
    }

    // "the place of the first number that is not so (4 n: some are lacking); -2: no such TURN, it has not so many"
    private static void checkOfManyNumbers() {
        BentTale tale = row();
        tale.begin();
        tale.turn(1, 1, NONE);
        int[] right = {0, 1, 1, -1, 1, 0, -1, -1, 2, 0, -1, -1, 3, 0, -1, -1};
        for (int n = 0; n <= 4; n++) {
            feed(tale, java.util.Arrays.copyOf(right, 20));
            is("first fours: " + n, tale.check(1, n), n == 4 ? NONE : 4 * n);
            is("empty then", tale.count(7), 0);
        }
        feed(tale, java.util.Arrays.copyOf(right, 20));
        is("a fifth four", tale.check(1, 5), 16);
        feed(tale, java.util.Arrays.copyOf(right, 100));
        is("full", tale.count(7), 400);
        for (int n : new int[] {LEAST, -1, 26, 27, 100, 1 << 28, 1 << 30, GREATEST}) {
            is("it has not so many: " + n, tale.check(1, n), -2);
        }
        for (int t : new int[] {LEAST, -1, 0, 2, 60, 61, GREATEST}) {
            is("no turn " + t, tale.check(t, 4), -2);
        }
        is("the tape stays", tale.count(7), 400);
        is("25 fours", tale.check(1, 25), 16);
        is("empty behind it", tale.count(7), 0);
        is("it has none", tale.check(1, 1), -2);
        is("none is asked for", tale.check(1, 0), 0);
        feed(tale, 0, 1, 1, -1, 1);
        is("twenty bytes are one four", tale.check(1, 2), -2);
        is("they stay", tale.count(7), 20);
        is("and that is right so far", tale.check(1, 1), 4);
    }

    private static void checkOfTheDead() {
        BentTale tale = row();
        tale.person(2, 0);
        tale.person(3, 0);
        tale.thing(12, true);
        wish(tale, 2, 7, "d3");
        tale.begin();
        pause(tale);
        feed(tale, 0, 0, -1, -1, 1, 0, -1, -1, 2, 5, 3, -1, 0, 0, 0);
        is("three deeds are all", tale.check(1, 3), NONE);
        feed(tale, 0, 0, -1, -1, 1, 0, -1, -1, 2, 5, 3, -1, 3, 0, -1, -1, 0, 0, 0, 0);
        is("the dead one did none", tale.check(1, 4), 12);
    }

    // "NONE for others"
    private static void countsOfNothing() {
        BentTale tale = row();
        tale.hidden(2 + 4, false);
        tale.thing(0, false);
        law(tale, "ng...");
        for (int begun = 0; begun < 2; begun++) {
            for (int what : new int[] {LEAST, -1, 9, 10, 14, 15, 19, 21, 22, 24, 25, 29, 31, 35, 36, 40, GREATEST}) {
                is("count " + what, tale.count(what), NONE);
            }
            is("the hidden one", tale.count(20), 6);
            is("the law", tale.count(30), 1);
            is("the wishes", tale.count(11) + tale.count(12) + tale.count(13), 0);
            tale.begin();
        }
    }

    // "All memory is the tale's own"
    private static void talesApart() {
        BentTale one = row();
        BentTale other = row();
        one.thing(0, false);
        one.person(1, 1);
        one.believe(1, false, 0, 0);
        one.price(1, 5);
        wish(one, 1, 1, "h0");
        law(one, "nt...");
        feed(one, "x");
        wish(other, 1, 2, "i2");
        yes("one begins", one.begin());
        is("the other has not", other.count(1), 0);
        is("no thing there", other.lies(0), NONE);
        is("no law there", other.keeps(0), NONE);
        is("no bytes there", other.count(7), 0);
        yes("the other begins", other.begin());
        is("one plans", one.plan(1, 0, NONE), 6);
        is("the other plans", other.plan(1, 0, NONE), 2);
        pause(one);
        is("no turn there", other.count(0), 0);
        pause(other);
        pause(one);
        is("one is broken", one.broken(0), 2);
        is("one is there", one.where(1), 0);
        is("the other is not", other.where(1), 3);
        is("the other goes on", other.wanted(1), 0);
        is("a shift there", other.shift(1, 4), 3);
        is("none here", one.count(4), 0);
        is("told of the one", one.did(2, 1, 0), 2);
        is("told of the other", other.did(2, 1, 0), NONE);
    }
}
