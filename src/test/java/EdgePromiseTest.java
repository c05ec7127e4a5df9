/** Promises 1 to 39, sentence by sentence: the last that is allowed, the first that is not, what a refused call leaves. */
public final class EdgePromiseTest {
    /** a is KNOCKING at i, b INSIDE j, c and d are in the LANE; e, far away, lives in j. */
    private static final String LANE = "lane 20;house i 5;house j 6;" + Check.tramps("a", 5) + Check.tramps("b", 6)
        + Check.tramps("c", 6) + Check.tramps("d", 12) + "person e j 19 stands stern;stay 20;calls d i;ear 1;";
    private static final String[] ACTS = {"knock", "go", "quit", "meets", "calls"};
    private static final int[] FAR = {-1, 5, 8, 32, Integer.MAX_VALUE, Integer.MIN_VALUE};

    public static void main(String[] args) {
        newObject();
        feedTo940();
        feedBehindTheTape();
        feedHighestFirst();
        endHasNotSoMany();
        quarterStays();
        tapeIsEmptyThen();
        faultOfTheLatest();
        houseNone();
        personThrows();
        personsDetails();
        callNone();
        nowNone();
        nowOpenedAndShut();
        knockNone();
        goNone();
        quitNone();
        meetsNone();
        callsNone();
        ticks1To60();
        undoEach();
        undoEight();
        undoKeepsAllEight();
        undoNone();
        answerNone();
        thoseAheadOfAny();
        chainNone();
        chainAtNone();
        whoNone();
        askAheadOfAny();
        askByWhatWasSo();
        opensIn300();
        opensNone();
        knownIn300();
        knownWithoutHouses();
        meetIn300();
        meetNone();
        busiestNone();
        meanThrows();
        tagNone();
        byteAtNone();
        drawn1To60();
        odds1To30();
        oddsSeedsWrap();
        oddsNone();
        imageNone();
        imageKeeps();
        restoreNone();
        restoreLeaves();
        restoreEndsUndo();
        countNone();
        calls512();
        aSmallerQuarter();
        Check.finish("EdgePromiseTest");
    }

    private static KnockLane lane() {
        KnockLane x = Check.lane(LANE);
        Check.due("b KNOCKS", x.knock(1, 1), 0);
        Check.due("c lets him in", x.ticks(1), 1);
        Check.due("a KNOCKS", x.knock(0, 0), 0);
        Check.due("one of each", x.now(1) * 1000 + x.now(2) * 10 + x.now(3), 28012);
        return x;
    }

    private static void newObject() {
        Check.says("A QUARTER without HOUSES; an empty tape.");
        KnockLane x = new KnockLane();
        int[] count = {0, 0, 10, 2, 3, 0};
        for (int w = 0; w < 6; w++) {
            Check.due("count(" + w + ")", x.count(w), count[w]);
        }
        for (int w = 0; w < 8; w++) {
            Check.due("now(" + w + ")", x.now(w), 0);
        }
        Check.none("house(0, 0)", x.house(0, 0));
        Check.none("said(-1)", x.said(-1));
        Check.none("undo()", x.undo());
        Check.due("restore(0)", x.restore(0), false);
        Check.due("end(1)", x.end(1), false);
        Check.due("it goes on", x.ticks(60), 60);
    }

    private static void feedTo940() {
        Check.says("NONE, and none come, if it would have more than 940.");
        KnockLane x = new KnockLane();
        for (int n = 1; n <= 47; n++) {
            Check.due("feed() " + n, x.feed(0x20202020, 0x20202020, 0x20202020, 0x20202020, 0x20202020), 20 * n);
        }
        Check.none("feed() to 960", x.feed(0, 0, 0, 0, 0));
        Check.due("none came", x.count(5), 940);
        int[] ends = {939, 930, 921};
        for (int n : ends) {
            x.end(n);
            Check.none("feed() behind " + n, x.feed(0, 0, 0, 0, 0));
            Check.due("none came", x.count(5), n);
        }
        x.end(920);
        Check.due("feed() behind 920", x.feed(0, 0, 0, 0, 0), 940);
        x.end(900);
        Check.due("what was there stays: 900 blanks", x.quarter(), 0);
    }

    private static void feedBehindTheTape() {
        Check.says("Twenty bytes come behind the tape");
        KnockLane x = new KnockLane();
        Check.feed(x, "lane 1");
        Check.due("feed() behind 6", x.feed(0x373b2020, 0x20202020, 0x20202020, 0x20202020, 0x20202020), 26);
        Check.due("quarter()", x.quarter(), 1);
        Check.due("lane 17", x.count(2), 17);
    }

    private static void feedHighestFirst() {
        Check.says("of each number the highest first");
        KnockLane x = new KnockLane();
        x.feed(0x6561723b, 0, 0, 0, 0);
        x.end(4);
        Check.due("ear;", x.quarter(), -4);
        x.feed(0x65617220, 0x383b7374, 0x61792031, 0x323b6c61, 0x6e652034);
        x.feed(0x3b000000, 0, 0, 0, 0);
        x.end(21);
        Check.due("ear 8;stay 12;lane 4;", x.quarter(), 3);
        Check.due("all five numbers", x.count(3) * 10000 + x.count(4) * 100 + x.count(2), 81204);
        x.feed(0xff000000, 0, 0, 0, 0);
        x.end(1);
        Check.due("a byte of 255", x.quarter(), -1);
    }

    private static void endHasNotSoMany() {
        Check.says("The tape has its first n bytes alone: true; false, if it has not so many, or n is below 0.");
        KnockLane x = new KnockLane();
        Check.due("end(0)", x.end(0), true);
        Check.due("end(1)", x.end(1), false);
        Check.feed(x, "lane 7;ear 1;stay 1;");
        Check.due("end(21)", x.end(21), false);
        Check.due("end(-1)", x.end(-1), false);
        Check.due("end(least)", x.end(Integer.MIN_VALUE), false);
        Check.due("end(most)", x.end(Integer.MAX_VALUE), false);
        Check.due("all are there", x.count(5), 20);
        Check.due("end(20)", x.end(20), true);
        Check.due("all are there", x.count(5), 20);
        Check.due("end(7)", x.end(7), true);
        Check.due("end(8)", x.end(8), false);
        Check.due("seven are there", x.count(5), 7);
        Check.due("the first ones", x.quarter(), 1);
        Check.due("lane 7", x.count(2), 7);
    }

    private static void quarterStays() {
        Check.says("how many LINES; -1 less the place of a FAULT: it stays.");
        KnockLane x = lane();
        KnockLane y = lane();
        Check.due("at 0", Check.quarter(x, ";"), -1);
        Check.due("at 900", Check.quarter(x, " ".repeat(901)), -901);
        Check.due("behind good LINES", Check.quarter(x, "lane 5;house i 1;person a i 1 up kind;ear 10;"), -1 - 42);
        Check.due("it stays", Check.all(x), Check.all(y));
        Check.due("what can be undone stays", x.undo(), 2);
        Check.due("LINES", Check.quarter(x, "lane 5;house i 1;person a i 1 up kind;ear 9;"), 4);
        Check.due("no LINES", x.quarter(), 0);
    }

    private static int read(KnockLane x, int call) {
        switch (call) {
            case 0: return x.quarter();
            case 1: return x.book(0);
            case 2: return x.book(1);
            case 3: return x.sentence();
            default: return x.who();
        }
    }

    private static void tapeIsEmptyThen() {
        Check.says("The tape (empty then, here and below)");
        String[] texts = {"lane 5;", "lane", "tick 1;", "stern", "\u0000\u0000", " ".repeat(930)};
        for (String text : texts) {
            for (int call = 0; call < 5; call++) {
                KnockLane x = lane();
                Check.feed(x, text);
                int answer = read(x, call);
                Check.due("behind call " + call + " of " + text + ", which answered " + answer, x.count(5), 0);
            }
        }
        KnockLane x = lane();
        Check.feed(x, "tick 1;");
        x.book(2);
        Check.due("but for -1000", x.count(5), 7);
    }

    private static void faultOfTheLatest() {
        Check.says("The kind of the FAULT of the latest quarter(), book() or sentence() (a book() of -1000 leaves it); 0 "
            + "without one and ahead of any.");
        KnockLane x = new KnockLane();
        Check.due("ahead of any", x.fault(), 0);
        x.book(5);
        Check.due("ahead of any", x.fault(), 0);
        String[] texts = {"lane 1;", "ear 1;ear 1;", "a 1;"};
        int[] kinds = {2, 3, 1};
        for (int i = 0; i < 3; i++) {
            Check.quarter(x, texts[i]);
            Check.due("of a quarter()", x.fault(), kinds[i]);
            x.book(-1);
            x.who();
            x.undo();
            x.image(0);
            x.restore(0);
            Check.due("it stays", x.fault(), kinds[i]);
        }
        Check.book(x, 0, "tick 1;");
        Check.due("of a book() without one", x.fault(), 0);
        Check.sentence(x, "not not not not not not not not stern");
        Check.due("of a sentence()", x.fault(), 4);
        Check.quarter(x, "");
        Check.due("of a quarter() without one", x.fault(), 0);
        Check.book(x, 1, "x quits;");
        Check.due("of a book()", x.fault(), 3);
        Check.sentence(x, "stern");
        Check.due("of a sentence() without one", x.fault(), 0);
    }

    private static void houseNone() {
        Check.says("Of a HOUSE: 0 its PLACE, 1 who live there, 2 STRANGERS, 3 who is KNOCKING, 4 INSIDE, as bits each. "
            + "NONE: no such ones.");
        KnockLane x = lane();
        int[][] due = {{5, 0, 31, 1, 0}, {6, 16, 11, 0, 2}};
        for (int h = 0; h < 2; h++) {
            for (int w = 0; w < 5; w++) {
                Check.due("house(" + h + ", " + w + ")", x.house(h, w), due[h][w]);
            }
            Check.none("house(" + h + ", 5)", x.house(h, 5));
            Check.none("house(" + h + ", -1)", x.house(h, -1));
        }
        int[] none = {-1, 2, 6, 32, Integer.MAX_VALUE, Integer.MIN_VALUE};
        for (int n : none) {
            Check.none("house(" + n + ", 0)", x.house(n, 0));
            Check.none("house(" + n + ", 2)", x.house(n, 2));
        }
    }

    private static void personThrows() {
        Check.says("10 stern (1, 0). NoSuchElementException: no such ones.");
        KnockLane x = lane();
        for (int w = 0; w <= 10; w++) {
            Check.due("person(4, " + w + ") is", Check.person(x, 4, w) != Check.THROWN, true);
            Check.due("person(5, " + w + ")", Check.person(x, 5, w), Check.THROWN);
            Check.due("person(-1, " + w + ")", Check.person(x, -1, w), Check.THROWN);
        }
        int[] none = {-1, 11, Integer.MAX_VALUE, Integer.MIN_VALUE};
        for (int w : none) {
            Check.due("person(0, " + w + ")", Check.person(x, 0, w), Check.THROWN);
        }
        Check.due("person(8, 0)", Check.person(Check.lane(Check.tramps("abcdefgh", 1)), 8, 0), Check.THROWN);
        Check.due("person(7, 0)", Check.person(Check.lane(Check.tramps("abcdefgh", 1)), 7, 0), 0);
    }

    private static void personsDetails() {
        Check.says("3 the HOUSE where he is KNOCKING or INSIDE (NONE), 4 TICKS to stay (0), 5 whom he KNOWS, 6 the "
            + "HOUSES at which he is to CALL, as "
            + "bits each, 7 TICKS waited so far, 8 how often he OPENED, 9 his own HOUSE (NONE)");
        KnockLane x = lane();
        Check.persons(x, 0, 1, 5, 2, 0, 0, 0, 0, 0, 0, -1, 0);
        Check.persons(x, 1, 2, 6, 2, 1, 20, 4, 0, 0, 0, -1, 0);
        Check.persons(x, 2, 0, 6, 2, -1, 0, 2 + 16, 0, 0, 1, -1, 0);
        Check.persons(x, 3, 0, 12, 2, -1, 0, 0, 1, 0, 0, -1, 0);
        Check.persons(x, 4, 0, 19, 2, -1, 0, 4, 0, 0, 0, 1, 1);
    }

    private static void callNone() {
        Check.says("Of the k-th CALL (from 0): 0 the PERSON, 1 the HOUSE. NONE: no such ones.");
        KnockLane x = lane();
        Check.due("call(0, 0)", x.call(0, 0), 3);
        Check.due("call(0, 1)", x.call(0, 1), 0);
        int[][] none = {{-1, 0}, {1, 0}, {1, 1}, {0, 2}, {0, -1}, {11, 0}, {12, 0}, {13, 1}, {Integer.MAX_VALUE, 0},
            {Integer.MIN_VALUE, 1}};
        for (int[] n : none) {
            Check.none("call(" + n[0] + ", " + n[1] + ")", x.call(n[0], n[1]));
        }
        Check.none("without CALLS", new KnockLane().call(0, 0));
    }

    private static void nowNone() {
        Check.says("NONE for another what.");
        KnockLane x = lane();
        int[] due = {1, 28, 1, 2, 3, 1, 1, 0};
        for (int w = 0; w < 8; w++) {
            Check.due("now(" + w + ")", x.now(w), due[w]);
        }
        int[] none = {-1, 8, 9, Integer.MAX_VALUE, Integer.MIN_VALUE};
        for (int w : none) {
            Check.none("now(" + w + ")", x.now(w));
        }
    }

    /** b KNOCKS and the stern a lets him in, then shuts him out; then a KNOCKS and b lets him in. */
    private static void nowOpenedAndShut() {
        Check.says("6 how often one OPENED, 7 how often it was shut, so far.");
        KnockLane x = Check.lane("house i 5;person a tramp 5 stands stern;" + Check.tramps("b", 5) + "stay 1;");
        int[] who = {1, 1, 0};
        int[] opened = {1, 2, 3};
        int[] shut = {0, 1, 1};
        Check.due("at first", x.now(6) * 10 + x.now(7), 0);
        for (int i = 0; i < 3; i++) {
            Check.due("knock()", x.knock(who[i], 0), 0);
            Check.due("ticks(2)", x.ticks(2), 2);
            Check.due("now(6)", x.now(6), opened[i]);
            Check.due("now(7)", x.now(7), shut[i]);
        }
        Check.due("by a and by b", Check.person(x, 0, 8) * 10 + Check.person(x, 1, 8), 21);
        Check.due("undone", x.undo() + x.now(6) * 10 + x.now(7), 26);
    }

    private static int act(KnockLane x, int which, int p, int other) {
        switch (which) {
            case 0: return x.knock(p, other);
            case 1: return x.go(p, other);
            case 2: return x.quit(p);
            case 3: return x.meets(p, other);
            default: return x.calls(p, other);
        }
    }

    /** Each refused act leaves all as it is, and what can be undone. */
    private static void refused(int which, int p, int other, int due) {
        KnockLane x = lane();
        KnockLane y = lane();
        Check.feed(x, "abc");
        Check.feed(y, "abc");
        String call = ACTS[which] + "(" + p + ", " + other + ")";
        Check.due(call, act(x, which, p, other), due);
        Check.due("all is as it was behind " + call, Check.whole(x), Check.whole(y));
        Check.due("undo() behind " + call, x.undo(), 2);
        Check.due("undo() undid knock(0, 0) behind " + call, Check.person(x, 0, 0), 0);
    }

    private static void noSuchOnes(int which) {
        for (int far : FAR) {
            refused(which, far, 0, KnockLane.NONE);
            refused(which, far, far, KnockLane.NONE);
            if (which != 2) {
                refused(which, 2, far, KnockLane.NONE);
            }
        }
    }

    private static void knockNone() {
        Check.says("One KNOCKS at a HOUSE: 0, or why not; NONE: no such ones.");
        noSuchOnes(0);
        refused(0, 2, 2, KnockLane.NONE);
        refused(0, 0, 2, KnockLane.NONE);
        refused(0, 0, 0, 1);
        refused(0, 1, 0, 1);
        refused(0, 2, 0, 2);
        refused(0, 4, 1, 2);
        Check.due("0", lane().knock(2, 1), 0);
    }

    private static void goNone() {
        Check.says("He GOES a WAY (0 to 2): 0, or why not; NONE: no such ones.");
        noSuchOnes(1);
        refused(1, 2, 3, KnockLane.NONE);
        refused(1, 0, 3, KnockLane.NONE);
        refused(1, 0, 0, 1);
        refused(1, 1, 2, 1);
        refused(1, 2, 2, 2);
        Check.due("0", lane().go(2, 0), 0);
        Check.due("0", lane().go(2, 1), 0);
    }

    private static void quitNone() {
        Check.says("He QUITS: 0, or why not; NONE: no such one.");
        noSuchOnes(2);
        refused(2, 1, 0, 1);
        refused(2, 2, 0, 1);
        Check.due("0", lane().quit(0), 0);
    }

    private static void meetsNone() {
        Check.says("Two MEET: 0, or why not; NONE: alike, no such ones.");
        noSuchOnes(3);
        for (int p = 0; p < 5; p++) {
            refused(3, p, p, KnockLane.NONE);
        }
        refused(3, 1, 2, 1);
        refused(3, 4, 2, 1);
        Check.due("0", lane().meets(0, 4), 0);
    }

    private static void callsNone() {
        Check.says("He is to CALL at a HOUSE: 0, or why not; NONE: no such ones.");
        noSuchOnes(4);
        refused(4, 2, 2, KnockLane.NONE);
        refused(4, 4, 1, 1);
        refused(4, 3, 0, 2);
        Check.due("0", lane().calls(4, 0), 0);
    }

    private static void whoNone() {
        Check.says("WHO: PERSONS, as bits; NONE: not as told (a byte that is no PERSON, neither 0 nor 1, too).");
        KnockLane x = lane();
        Check.due("c, whom b KNOWS", Check.who(x, 1, 1), 4);
        int[][] none = {{}, {0}, {1, 1, 2}, {5, 0}, {255, 0}, {0, 2}, {0, 255}, {1, 1, 5, 1}, {1, 1, 2, 2},
            {0, 0, 0, 0, 0, 0, 0, 0, 0, 0, 0, 0, 0, 0}};
        for (int[] bytes : none) {
            Check.none("who() of " + bytes.length, Check.who(x, bytes));
            Check.due("the tape is empty then", x.count(5), 0);
        }
        Check.none("without PERSONS", Check.who(new KnockLane(), 0, 0));
    }

    private static void ticks1To60() {
        Check.says("n (1 to 60) TICKS go by: how many did; NONE: not as told.");
        int[] none = {0, -1, 61, Integer.MAX_VALUE, Integer.MIN_VALUE};
        for (int n : none) {
            KnockLane x = lane();
            KnockLane y = lane();
            Check.none("ticks(" + n + ")", x.ticks(n));
            Check.due("all is as it was", Check.whole(x), Check.whole(y));
            Check.due("undo()", x.undo(), 2);
        }
        KnockLane x = lane();
        Check.due("ticks(1)", x.ticks(1), 1);
        Check.due("ticks(60)", x.ticks(60), 60);
        Check.due("TICK", x.now(0), 62);
        Check.go(x, 900);
        Check.due("38 of 60", x.ticks(60), 38);
        Check.due("0 of 60", x.ticks(60), 0);
        Check.due("TICK", x.now(0), 1000);
    }

    private static int done(KnockLane x, int which) {
        switch (which) {
            case 0: return x.knock(2, 1);
            case 1: return x.go(3, 1);
            case 2: return x.quit(0);
            case 3: return x.meets(0, 4);
            case 4: return x.calls(4, 0);
            case 5: return x.ticks(3) - 3;
            case 6: return x.drawn(3, 5) - 3;
            default: return Check.book(x, 1, "d goes up;d goes up;") - 1;
        }
    }

    private static void undoEach() {
        Check.says("The latest of knock(), go(), quit(), meets(), calls() that was done, ticks() above 0, drawn() above "
            + "0, a BOOK of which some LINE was lived is undone");
        for (int which = 0; which < 8; which++) {
            KnockLane x = lane();
            KnockLane y = lane();
            Check.due("act " + which, done(x, which), 0);
            Check.due("act " + which + " changed something", Check.all(x).equals(Check.all(y)), false);
            Check.due("undo()", x.undo(), 3);
            Check.due("act " + which + " is undone", Check.all(x), Check.all(y));
        }
        KnockLane x = lane();
        Check.go(x, 999);
        x.ticks(0);
        x.ticks(1);
        x.drawn(1, 1);
        Check.book(x, 1, "");
        Check.book(x, 0, "e goes up;");
        Check.book(x, 1, "tick 1;");
        Check.due("ticks(1) of 0, drawn() of 0, BOOKS of which none was lived", x.undo(), 7);
        Check.due("TICK", x.now(0), 961);
    }

    private static void undoEight() {
        Check.says("how many more can be (8 at most are kept)");
        for (int n = 0; n < 20; n++) {
            KnockLane x = new KnockLane();
            for (int i = 0; i < n; i++) {
                x.ticks(1);
            }
            int kept = Math.min(8, n);
            for (int i = kept - 1; i >= 0; i--) {
                Check.due("undo() of " + n, x.undo(), i);
                Check.due("TICK", x.now(0), n - kept + i);
            }
            Check.none("undo() of " + n, x.undo());
            Check.due("TICK", x.now(0), n - kept);
        }
    }

    /** Eight are kept, and each of these calls is refused or does nothing: none of the eight goes. */
    private static void undoKeepsAllEight() {
        Check.says("that was done");
        KnockLane x = Check.lane("house i 5;" + Check.tramps("ab", 5));
        for (int i = 0; i < 9; i++) {
            x.ticks(1);
        }
        int[] refused = {x.knock(0, 1), x.go(0, 2), x.quit(0), x.meets(0, 0), x.calls(0, 6), x.ticks(0), x.drawn(61, 1)};
        int[] due = {-1, 2, 1, -1, -1, -1, -1};
        for (int i = 0; i < due.length; i++) {
            Check.due("refused " + i, refused[i], due[i]);
        }
        Check.due("a BOOK that is WRONG at once", Check.book(x, 1, "a quits;"), 0);
        for (int i = 7; i >= 0; i--) {
            Check.due("undo()", x.undo(), i);
            Check.due("TICK", x.now(0), 1 + i);
        }
        Check.none("undo()", x.undo());
    }

    private static void undoNone() {
        Check.says("NONE: none is.");
        KnockLane x = new KnockLane();
        Check.none("at first", x.undo());
        x.ticks(1);
        x.undo();
        Check.none("behind the last", x.undo());
        x.ticks(1);
        x.quarter();
        Check.none("behind a new QUARTER", x.undo());
        Check.due("TICK", x.now(0), 0);
        x = lane();
        x.undo();
        x.undo();
        x.undo();
        String before = Check.whole(x);
        Check.none("all are undone", x.undo());
        Check.due("nothing changed", Check.whole(x), before);
    }

    private static void answerNone() {
        Check.says("ANSWER of a PERSON: who; NONE: nobody, he is not KNOCKING, no such one.");
        KnockLane x = lane();
        Check.due("a: c", x.answer(0), 2);
        int[] none = {1, 2, 3, 4, 5, 8, 32, -1, Integer.MAX_VALUE, Integer.MIN_VALUE};
        for (int p : none) {
            Check.none("answer(" + p + ")", x.answer(p));
        }
        x.go(2, 0);
        x.ticks(1);
        Check.none("nobody", x.answer(0));
    }

    private static void thoseAheadOfAny() {
        Check.says("Which of those who are KNOCKING, as bits, by the latest most(); NONE ahead of any.");
        KnockLane x = lane();
        Check.none("ahead of any", x.those());
        x.answer(0);
        Check.none("ahead of any", x.those());
        Check.due("most()", x.most(), 1);
        Check.due("those()", x.those(), 1);
        x.quit(0);
        Check.due("by the latest", x.those(), 1);
        x.quarter();
        Check.due("by the latest", x.those(), 1);
        Check.due("most()", x.most(), 0);
        Check.due("those()", x.those(), 0);
    }

    private static void chainNone() {
        Check.says("how many KNOW the one ahead (0: they are one); NONE: there is none, no such ones.");
        KnockLane x = lane();
        Check.due("they are one", x.chain(3, 3), 0);
        Check.due("b, c", x.chain(1, 2), 1);
        Check.due("b, c, e", x.chain(1, 4), 2);
        Check.none("there is none", x.chain(0, 1));
        Check.none("there is none", x.chain(1, 0));
        int[] none = {-1, 5, 8, 32, 33, Integer.MAX_VALUE, Integer.MIN_VALUE};
        for (int n : none) {
            Check.none("chain(" + n + ", 0)", x.chain(n, 0));
            Check.none("chain(0, " + n + ")", x.chain(0, n));
            Check.none("chain(" + n + ", " + n + ")", x.chain(n, n));
        }
        Check.none("without PERSONS", new KnockLane().chain(0, 0));
    }

    private static void chainAtNone() {
        Check.says("The k-th PERSON of it (from 0: the first of the two) by the latest chain() that was not NONE; NONE: "
            + "none such, or ahead of any.");
        KnockLane x = lane();
        Check.none("ahead of any", x.chainAt(0));
        x.chain(0, 1);
        Check.none("ahead of any", x.chainAt(0));
        x.chain(1, 4);
        x.chain(0, 1);
        x.chain(9, 9);
        int[] due = {1, 2, 4, -1, -1};
        for (int k = 0; k < 5; k++) {
            Check.due("chainAt(" + k + ")", x.chainAt(k), due[k]);
        }
        int[] none = {-1, 7, 8, Integer.MAX_VALUE, Integer.MIN_VALUE};
        for (int k : none) {
            Check.none("chainAt(" + k + ")", x.chainAt(k));
        }
        x.chain(3, 3);
        Check.due("chainAt(0)", x.chainAt(0), 3);
        Check.none("chainAt(1)", x.chainAt(1));
        KnockLane y = Check.lane(Check.tramps("abcdefgh", 1) + "knows a b;knows b c;knows c d;knows d e;knows e f;knows "
            + "f g;knows g h;");
        Check.due("the longest", y.chain(0, 7), 7);
        Check.due("chainAt(7)", y.chainAt(7), 7);
        Check.none("chainAt(8)", y.chainAt(8));
    }

    private static void askAheadOfAny() {
        Check.says("ASK by the latest who() above 0");
        KnockLane x = Check.lane(Check.tramps("abc", 1));
        Check.none("ahead of any", x.ask());
        Check.none("who()", x.who());
        Check.due("who() of 0", Check.who(x, 0, 1), 0);
        Check.none("ahead of any", x.ask());
        Check.due("who()", Check.who(x, 0, 0), 6);
        Check.due("ask()", x.ask(), 1);
        Check.due("who() of 0", Check.who(x, 0, 1), 0);
        Check.none("who()", Check.who(x, 3, 1));
        Check.due("ask()", x.ask(), 1);
        Check.due("who() of 1: a alone", Check.who(x, 1, 0, 2, 0), 1);
        Check.due("ask()", x.ask(), 0);
    }

    private static void askByWhatWasSo() {
        Check.says("(by what was so then); NONE ahead of any.");
        KnockLane x = Check.lane(Check.tramps("abcd", 1));
        Check.due("who()", Check.who(x, 3, 0), 7);
        Check.due("ask()", x.ask(), 0);
        x.meets(1, 2);
        Check.due("it stays", x.ask(), 0);
        x.undo();
        x.quarter();
        Check.due("it stays", x.ask(), 0);
    }

    /** v is let in in TICK 318; behind 17 TICKS that is 301 away. */
    private static void opensIn300() {
        Check.says("OPENS of a PERSON: TICKS (1 and on); NONE: not in 300");
        KnockLane x = Check.lane(AheadTest.LONG_OPENS);
        Check.go(x, 17);
        Check.none("301", x.opens(6));
        x.ticks(1);
        Check.due("300", x.opens(6), 300);
        Check.go(x, 299);
        Check.due("1", x.opens(6), 1);
        x.ticks(1);
        Check.due("INSIDE", Check.person(x, 6, 0), 2);
        Check.none("he is INSIDE", x.opens(6));
    }

    private static void opensNone() {
        Check.says("he is in the LANE ahead of that, he is not KNOCKING, no such one.");
        KnockLane x = lane();
        Check.due("a", x.opens(0), 1);
        int[] none = {1, 2, 3, 4, 5, 8, 32, -1, Integer.MAX_VALUE, Integer.MIN_VALUE};
        for (int p : none) {
            Check.none("opens(" + p + ")", x.opens(p));
        }
        x = Check.lane("house i 5;" + Check.tramps("a", 5) + "person b tramp 5 stands stern;knows a b;");
        x.knock(0, 0);
        Check.none("shut out", x.opens(0));
    }

    private static void knownIn300() {
        Check.says("KNOWN: TICKS (0: none has now");
        KnockLane x = Check.lane(AheadTest.LONG_KNOWN);
        Check.go(x, 12);
        Check.none("301", x.known());
        x.ticks(1);
        Check.due("300", x.known(), 300);
        Check.go(x, 299);
        Check.due("1", x.known(), 1);
        Check.due("now(4)", x.now(4) > 0, true);
        x.ticks(1);
        Check.due("0", x.known(), 0);
        Check.due("now(4)", x.now(4), 0);
    }

    private static void knownWithoutHouses() {
        Check.says("so, too, without HOUSES); NONE: not in 300.");
        Check.due("a new object", new KnockLane().known(), 0);
        Check.due("PERSONS alone", Check.lane(Check.tramps("abcdefgh", 1)).known(), 0);
        Check.due("HOUSES alone", Check.lane("house i 5;").known(), 0);
        Check.none("one of each", Check.lane("house i 5;" + Check.tramps("a", 5)).known());
    }

    private static void meetIn300() {
        Check.says("MEET of two PERSONS: TICKS (0: they do); NONE: not in 300");
        KnockLane x = Check.lane(AheadTest.LONG_MEET);
        Check.go(x, 4);
        Check.none("301", x.meet(2, 4));
        x.ticks(1);
        Check.due("300", x.meet(2, 4), 300);
        Check.due("300", x.meet(4, 2), 300);
        Check.go(x, 299);
        Check.due("1", x.meet(2, 4), 1);
        x.ticks(1);
        Check.due("0", x.meet(2, 4), 0);
        Check.due("at one PLACE", Check.person(x, 2, 1), Check.person(x, 4, 1));
    }

    private static void meetNone() {
        Check.says("alike, no such ones.");
        KnockLane x = lane();
        int[] none = {-1, 5, 8, 32, Integer.MAX_VALUE, Integer.MIN_VALUE};
        for (int n : none) {
            Check.none("meet(" + n + ", 0)", x.meet(n, 0));
            Check.none("meet(0, " + n + ")", x.meet(0, n));
            Check.none("meet(" + n + ", " + n + ")", x.meet(n, n));
        }
        for (int p = 0; p < 5; p++) {
            Check.none("meet(" + p + ", " + p + ")", x.meet(p, p));
        }
        x = Check.lane("house i 5;" + Check.tramps("abc", 5) + "stay 30;");
        Check.due("they do", x.meet(0, 1), 0);
        x.knock(0, 0);
        Check.due("at one PLACE, but KNOCKING: out behind 31", x.meet(0, 1), 31);
    }

    private static void busiestNone() {
        Check.says("BUSIEST; NONE: nobody OPENED.");
        Check.none("a new object", new KnockLane().busiest());
        KnockLane x = lane();
        Check.due("c", x.busiest(), 2);
        x.undo();
        x.undo();
        Check.none("undone", x.busiest());
    }

    private static void meanThrows() {
        Check.says("MEAN. NoSuchElementException: there are no PERSONS, no such ones.");
        KnockLane x = lane();
        Check.due("4 by 5", Check.mean(x, 0) * 10 + Check.mean(x, 1), 45);
        int[] none = {-1, 2, Integer.MAX_VALUE, Integer.MIN_VALUE};
        for (int w : none) {
            Check.due("mean(" + w + ")", Check.mean(x, w), Check.THROWN);
        }
        for (int w = -1; w < 3; w++) {
            Check.due("a new object: mean(" + w + ")", Check.mean(new KnockLane(), w), Check.THROWN);
            Check.due("HOUSES alone: mean(" + w + ")", Check.mean(Check.lane("house i 5;"), w), Check.THROWN);
        }
    }

    private static void tagNone() {
        Check.says("TAG of a PERSON: how many bytes; NONE: no such one.");
        KnockLane x = lane();
        Check.due("tag(0)", x.tag(0), "a knocks at i".length());
        int[] none = {-1, 5, 8, 32, Integer.MAX_VALUE, Integer.MIN_VALUE};
        for (int p : none) {
            Check.none("tag(" + p + ")", x.tag(p));
        }
        Check.due("the latest TAG stays", x.byteAt(2), 'k');
        Check.none("without PERSONS", new KnockLane().tag(0));
    }

    private static void byteAtNone() {
        Check.says("Byte i of the latest TAG; NONE: none such.");
        KnockLane x = lane();
        Check.none("ahead of any", x.byteAt(0));
        String due = "b in j";
        Check.due("tag(1)", x.tag(1), due.length());
        for (int i = 0; i < due.length(); i++) {
            Check.due("byteAt(" + i + ")", x.byteAt(i), due.charAt(i));
        }
        int[] none = {-1, 6, 7, 31, 32, Integer.MAX_VALUE, Integer.MIN_VALUE};
        for (int i : none) {
            Check.none("byteAt(" + i + ")", x.byteAt(i));
        }
        x.tag(0);
        Check.due("byteAt(12)", x.byteAt(12), 'i');
        x.tag(1);
        Check.none("a shorter one behind a longer one", x.byteAt(6));
    }

    private static void drawn1To60() {
        Check.says("n (1 to 60) TICKS DRAWN by a seed: how many went by; NONE: not as told.");
        int[] none = {0, -1, 61, Integer.MAX_VALUE, Integer.MIN_VALUE};
        for (int n : none) {
            KnockLane x = lane();
            KnockLane y = lane();
            Check.none("drawn(" + n + ", 1)", x.drawn(n, 1));
            Check.due("all is as it was", Check.whole(x), Check.whole(y));
            Check.due("undo()", x.undo(), 2);
        }
        KnockLane x = lane();
        Check.due("drawn(1, 1)", x.drawn(1, 1), 1);
        Check.due("drawn(60, 1)", x.drawn(60, 1), 60);
        Check.due("TICK", x.now(0), 62);
        Check.go(x, 900);
        Check.due("38 of 60", x.drawn(60, 1), 38);
        Check.due("0 of 60", x.drawn(60, 1), 0);
        Check.due("TICK", x.now(0), 1000);
    }

    private static int insideByHand(int p, int seed) {
        KnockLane x = lane();
        x.drawn(20, seed);
        return Check.person(x, p, 0) == 2 ? 1 : 0;
    }

    private static void odds1To30() {
        Check.says("Of n (1 to 30) seeds x, x and 1, .. by how many a PERSON is INSIDE behind 20 TICKS DRAWN from now on");
        KnockLane x = lane();
        KnockLane y = lane();
        int inside = 0;
        for (int n = 1; n <= 30; n++) {
            inside += insideByHand(0, 99 + n);
            Check.due("odds(0, " + n + ", 100)", x.odds(0, n, 100), inside);
        }
        Check.due("not all, not none", inside > 0 && inside < 30, true);
        Check.due("all is as it was", Check.whole(x), Check.whole(y));
        Check.due("undo()", x.undo(), 2);
    }

    private static void oddsSeedsWrap() {
        Check.says("seeds x, x and 1, ..");
        int due = 0;
        for (int i = 0; i < 30; i++) {
            due += insideByHand(0, Integer.MAX_VALUE - 14 + i);
        }
        Check.due("odds() over the greatest int", lane().odds(0, 30, Integer.MAX_VALUE - 14), due);
    }

    private static void oddsNone() {
        Check.says("NONE: no such ones.");
        KnockLane x = lane();
        int[] ns = {0, -1, 31, Integer.MAX_VALUE, Integer.MIN_VALUE};
        for (int n : ns) {
            Check.none("odds(0, " + n + ", 1)", x.odds(0, n, 1));
        }
        int[] ps = {-1, 5, 8, 32, Integer.MAX_VALUE, Integer.MIN_VALUE};
        for (int p : ps) {
            Check.none("odds(" + p + ", 1, 1)", x.odds(p, 1, 1));
        }
        Check.none("without PERSONS", new KnockLane().odds(0, 1, 1));
    }

    private static void imageNone() {
        Check.says("kept in place k (0, 1): true; false: no such one.");
        KnockLane x = lane();
        int[] none = {-1, 2, Integer.MAX_VALUE, Integer.MIN_VALUE};
        for (int k : none) {
            Check.due("image(" + k + ")", x.image(k), false);
        }
        Check.due("nothing is kept", x.restore(0) || x.restore(1), false);
        Check.due("image(0)", x.image(0), true);
        Check.due("image(1)", x.image(1), true);
        Check.due("undo() is what it was", x.undo(), 2);
    }

    private static void imageKeeps() {
        Check.says("QUARTER, all that is so and the SENTENCE are kept");
        KnockLane x = lane();
        Check.sentence(x, "stern or knocking");
        KnockLane y = lane();
        Check.sentence(y, "stern or knocking");
        x.image(1);
        x.drawn(60, 8);
        Check.sentence(x, "walking");
        Check.quarter(x, "lane 3;house i 0;");
        x.ticks(5);
        x.image(0);
        Check.due("restore(1)", x.restore(1), true);
        Check.due("as it was", Check.all(x), Check.all(y));
        x.ticks(9);
        y.ticks(9);
        Check.due("and it goes on", Check.all(x), Check.all(y));
        Check.due("restore(1)", x.restore(1), true);
        Check.due("TICK", x.now(0), 1);
        Check.due("restore(0)", x.restore(0), true);
        Check.due("TICK, PLACES", x.now(0) * 10 + x.count(2), 53);
        Check.none("no SENTENCE", x.said(-1));
    }

    private static void restoreNone() {
        Check.says("false: no such one, or nothing is kept there.");
        KnockLane x = lane();
        KnockLane y = lane();
        int[] none = {-1, 0, 1, 2, Integer.MAX_VALUE, Integer.MIN_VALUE};
        for (int k : none) {
            Check.due("restore(" + k + ")", x.restore(k), false);
        }
        Check.due("all is as it was", Check.whole(x), Check.whole(y));
        Check.due("undo()", x.undo(), 2);
        x.image(1);
        Check.due("restore(0)", x.restore(0), false);
        Check.due("restore(1)", x.restore(1), true);
        Check.due("restore(2)", x.restore(2), false);
    }

    private static void restoreLeaves() {
        Check.says("(the tape, and what other calls told last, stays");
        KnockLane x = lane();
        x.image(0);
        x.most();
        x.chain(1, 4);
        Check.who(x, 0, 0);
        x.tag(0);
        Check.book(x, 1, "tick 5;c quits;");
        Check.sentence(x, "not");
        Check.feed(x, "abcde");
        x.ticks(3);
        int[] before = {x.those(), x.chainAt(1), x.ask(), x.byteAt(2), x.told(0), x.told(2), x.told(3), x.fault(), x.count(5)};
        Check.due("restore(0)", x.restore(0), true);
        int[] behind = {x.those(), x.chainAt(1), x.ask(), x.byteAt(2), x.told(0), x.told(2), x.told(3), x.fault(), x.count(5)};
        int[] due = {1, 2, before[2], 'k', 21, 6, 3, 1, 5};
        for (int i = 0; i < due.length; i++) {
            Check.due("ahead: " + i, before[i], due[i]);
            Check.due("behind: " + i, behind[i], due[i]);
        }
        Check.due("TICK", x.now(0), 1);
    }

    private static void restoreEndsUndo() {
        Check.says("nothing can be undone): true");
        KnockLane x = lane();
        x.image(0);
        x.ticks(1);
        x.ticks(1);
        Check.due("restore(0)", x.restore(0), true);
        Check.none("undo()", x.undo());
        Check.due("TICK", x.now(0), 1);
        x.ticks(1);
        Check.due("undo() of what was done behind it", x.undo(), 0);
        Check.none("undo()", x.undo());
    }

    private static void countNone() {
        Check.says("0 HOUSES, 1 PERSONS, 2 PLACES of the lane, 3 'ear', 4 'stay', 5 bytes of the tape. NONE for another what.");
        KnockLane x = lane();
        Check.feed(x, "abcdefghijklmnopqrstuvw");
        int[] due = {2, 5, 20, 1, 20, 23};
        for (int w = 0; w < 6; w++) {
            Check.due("count(" + w + ")", x.count(w), due[w]);
        }
        int[] none = {-1, 6, 7, Integer.MAX_VALUE, Integer.MIN_VALUE};
        for (int w : none) {
            Check.none("count(" + w + ")", x.count(w));
        }
    }

    private static void calls512() {
        Check.says("An object is used for at most 512 calls after it has been made");
        KnockLane x = new KnockLane();
        for (int i = 0; i < 255; i++) {
            Check.due("feed() " + i, x.feed(0x20202020, 0x20202020, 0x20202020, 0x20202020, i), 20);
            Check.due("end() " + i, x.end(0), true);
        }
        Check.due("the 511th", x.ticks(60), 60);
        Check.due("the 512th", x.undo(), 0);
        x = Check.lane(Check.tramps("ab", 5));
        for (int i = 0; i < 490; i++) {
            Check.due("go() " + i, x.go(0, i % 2), 0);
        }
        Check.due("undo() of 490", x.undo(), 7);
    }

    /** What a larger QUARTER had is no matter in a smaller one, nor in an image of it. */
    private static void aSmallerQuarter() {
        Check.says("The tape (empty then, here and below) is the QUARTER now");
        StringBuilder text = new StringBuilder("house k 1;house l 1;");
        for (char p : "abcdefgh".toCharArray()) {
            text.append("person ").append(p).append(" k 1 stands stern;");
        }
        KnockLane x = Check.lane(text + "calls a l;calls b l;calls c l;");
        x.ticks(5);
        Check.due("one PERSON", Check.quarter(x, "house i 1;" + Check.tramps("a", 1)), 2);
        KnockLane y = Check.lane("house i 1;" + Check.tramps("a", 1));
        Check.due("as in a new object", Check.all(x), Check.all(y));
        Check.due("mean()", Check.mean(x, 0) * 10 + Check.mean(x, 1), 1);
        Check.none("busiest()", x.busiest());
        x.knock(0, 0);
        y.knock(0, 0);
        x.drawn(9, 3);
        y.drawn(9, 3);
        Check.due("and it goes on so", Check.all(x), Check.all(y));
        Check.due("two PERSONS", Check.quarter(x, Check.tramps("ab", 1) + "knows a b;"), 3);
        Check.due("one PERSON again", Check.quarter(x, Check.tramps("a", 1)), 1);
        Check.due("mean()", Check.mean(x, 0) * 10 + Check.mean(x, 1), 1);
        Check.due("whom he KNOWS", Check.person(x, 0, 5), 0);
        Check.due("f would part the others best", Check.quarter(x, Check.tramps("abcdef", 1) + "knows f a;knows f b;"), 8);
        Check.due("but f is not there any more", Check.quarter(x, Check.tramps("abcde", 1)), 5);
        Check.due("all but e", Check.who(x, 4, 0), 15);
        Check.due("ask()", x.ask(), 0);
    }
}
