/** The passage marked 3, sentence by sentence: what is asked of a lane, and what would go on in it. */
public final class EdgeAskTest {
    private static final String EIGHT = Check.tramps("abcdefgh", 1);

    public static void main(String[] args) {
        answerIfHeWasTheFirst();
        mostOfThose();
        eachByAnotherOne();
        leastAsBits();
        fewestPersons();
        chainLeast();
        whomJustThoseKnow();
        notOneOfThoseTold();
        oneTo6Pairs();
        toldBothWays();
        askTheLeast();
        askHimself();
        nothingElseIsDone();
        tick1000NoMatter();
        opensIfNotInTheLane();
        knownBehind();
        meetBehind();
        busiestTheFirst();
        meanInLeastTerms();
        tagInTheLane();
        tagAtADoor();
        drawsWrap();
        drawsAreUnsigned();
        drawOf8();
        noHousesNoDraw();
        eachIfItCanBe();
        thenTheTick();
        drawsGoOn();
        aThrowChangesNothing();
        Check.finish("EdgeAskTest");
    }

    private static void answerIfHeWasTheFirst() {
        Check.says("ANSWER of one who is KNOCKING: who would answer him now, if he was the first.");
        KnockLane x = Check.lane("house i 5;" + Check.tramps("abc", 5) + "person d tramp 8 down kind;person e tramp 6 up kind;");
        x.knock(0, 0);
        x.knock(1, 0);
        Check.due("of a: c", x.answer(0), 2);
        Check.due("of b: c, too", x.answer(1), 2);
        x.knock(2, 0);
        Check.due("now: e is at 6, not at 7 yet", x.answer(2), 4);
        x.meets(0, 4);
        Check.due("he need not let him in", x.answer(0), 4);
        Check.due("nothing changed", x.now(2), 7);
    }

    private static void most(KnockLane x, int most, int those) {
        Check.due("most()", x.most(), most);
        Check.due("those()", x.those(), those);
    }

    private static void mostOfThose() {
        Check.says("MOST: the most of those who are KNOCKING that could be answered now");
        KnockLane x = Check.lane("house i 5;" + EIGHT.replace("tramp 1", "tramp 5"));
        most(x, 0, 0);
        int[] due = {1, 2, 3, 4, 3, 2, 1, 0};
        int[] those = {1, 3, 7, 15, 7, 3, 1, 0};
        for (int p = 0; p < 8; p++) {
            x.knock(p, 0);
            most(x, due[p], those[p]);
        }
        most(new KnockLane(), 0, 0);
    }

    /** c can be answered by e alone, d by e and f: both, though e would come first for d. */
    private static void eachByAnotherOne() {
        Check.says("each by another one in the LANE, within 'ear', a STRANGER of that HOUSE");
        KnockLane x = Check.lane("house i 5;house j 8;" + Check.tramps("d", 5) + Check.tramps("c", 8) + Check.tramps("e", 6)
            + Check.tramps("f", 3) + "ear 2;");
        x.knock(0, 0);
        x.knock(1, 1);
        most(x, 2, 3);
        x = Check.lane("house i 5;" + Check.tramps("ab", 5) + Check.tramps("c", 7) + Check.tramps("d", 8) + "ear 2;");
        x.knock(0, 0);
        x.knock(1, 0);
        most(x, 1, 1);
        x = Check.lane("house i 5;person a i 5 stands kind;" + Check.tramps("bcd", 5) + "knows a d;ear 0;");
        x.knock(1, 0);
        most(x, 1, 2);
        x.knock(2, 0);
        most(x, 0, 0);
    }

    /** One who could answer two: the least set of one. */
    private static void leastAsBits() {
        Check.says("of like ones the least as bits.");
        KnockLane x = Check.lane("house i 5;" + Check.tramps("abcd", 5));
        x.knock(2, 0);
        x.knock(1, 0);
        x.knock(3, 0);
        most(x, 1, 2);
        x = Check.lane("house i 5;house j 2;" + Check.tramps("a", 2) + Check.tramps("bcd", 5) + Check.tramps("e", 6) + "ear 1;");
        x.knock(0, 1);
        x.knock(1, 0);
        x.knock(2, 0);
        x.knock(3, 0);
        most(x, 1, 2);
        x = Check.lane("house i 5;house j 3;" + Check.tramps("a", 3) + Check.tramps("bcd", 5) + Check.tramps("e", 4)
            + Check.tramps("f", 6)
            + "ear 1;");
        x.knock(0, 1);
        x.knock(1, 0);
        x.knock(2, 0);
        x.knock(3, 0);
        // e can answer at both HOUSES, f at i alone: a with one of b, c, d is less than two of them.
        most(x, 2, 3);
    }

    private static void chain(KnockLane x, int p, int q, int... due) {
        Check.due("chain(" + p + ", " + q + ")", x.chain(p, q), due.length - 1);
        for (int k = 0; k < due.length; k++) {
            Check.due("chainAt(" + k + ")", x.chainAt(k), due[k]);
        }
        Check.none("chainAt(" + due.length + ")", x.chainAt(due.length));
    }

    private static void fewestPersons() {
        Check.says("CHAIN of two: the fewest PERSONS from the one to the other one, each of whom KNOWS the one ahead");
        KnockLane x = Check.lane(EIGHT + "knows a b;knows b c;knows c d;knows d e;knows e f;knows f g;knows g h;");
        chain(x, 0, 7, 0, 1, 2, 3, 4, 5, 6, 7);
        chain(x, 7, 0, 7, 6, 5, 4, 3, 2, 1, 0);
        x.meets(1, 7);
        chain(x, 0, 7, 0, 1, 7);
        chain(x, 0, 5, 0, 1, 7, 6, 5);
        x.meets(0, 7);
        chain(x, 0, 7, 0, 7);
        chain(x, 4, 4, 4);
    }

    private static void chainLeast() {
        Check.says("of like ones the first: PERSON by PERSON the least.");
        KnockLane x = Check.lane(EIGHT + "knows a g;knows a f;knows g c;knows f d;knows c b;knows d b;");
        chain(x, 0, 1, 0, 5, 3, 1);
        chain(x, 1, 0, 1, 2, 6, 0);
        x.meets(5, 2);
        chain(x, 0, 1, 0, 5, 2, 1);
        chain(x, 1, 0, 1, 2, 5, 0);
    }

    private static void whomJustThoseKnow() {
        Check.says("PERSONS, not one of those told, whom just those KNOW that are told by 1 (others of the tape do not");
        KnockLane x = Check.lane(Check.tramps("abcdef", 1) + "knows a c;knows a d;knows b d;knows b e;");
        Check.due("a: 1", Check.who(x, 0, 1), 4 + 8);
        Check.due("a: 0", Check.who(x, 0, 0), 2 + 16 + 32);
        Check.due("a: 1, b: 1", Check.who(x, 0, 1, 1, 1), 8);
        Check.due("a: 1, b: 0", Check.who(x, 0, 1, 1, 0), 4);
        Check.due("a: 0, b: 1", Check.who(x, 0, 0, 1, 1), 16);
        Check.due("a: 0, b: 0", Check.who(x, 0, 0, 1, 0), 32);
        Check.due("whom others KNOW is no matter", Check.who(x, 5, 0), 31);
    }

    private static void notOneOfThoseTold() {
        Check.says("not one of those told");
        KnockLane x = Check.lane("house i 1;person a i 1 up kind;person b i 1 up kind;person c i 1 up kind;");
        Check.due("a", Check.who(x, 0, 1), 6);
        Check.due("a, b", Check.who(x, 0, 1, 1, 1), 4);
        Check.due("all", Check.who(x, 0, 1, 1, 1, 2, 1), 0);
        Check.due("a, who does not KNOW himself", Check.who(x, 0, 0), 0);
    }

    private static void oneTo6Pairs() {
        Check.says("WHO by the tape (pairs of bytes: a PERSON, 0 or 1: 1 to 6 of them)");
        KnockLane x = Check.lane(EIGHT);
        Check.none("no pair", Check.who(x));
        Check.due("1", Check.who(x, 7, 0), 127);
        Check.due("6", Check.who(x, 0, 0, 1, 0, 2, 0, 3, 0, 4, 0, 5, 0), 192);
        Check.none("7", Check.who(x, 0, 0, 1, 0, 2, 0, 3, 0, 4, 0, 5, 0, 6, 0));
        Check.none("half a pair", Check.who(x, 0));
        Check.none("a pair and a half", Check.who(x, 0, 0, 1));
        Check.none("6 pairs and a half", Check.who(x, 0, 0, 1, 0, 2, 0, 3, 0, 4, 0, 5, 0, 6));
        Check.due("one told six times alike", Check.who(x, 0, 0, 0, 0, 0, 0, 0, 0, 0, 0, 0, 0), 254);
        Check.none("no such PERSON", Check.who(x, 8, 0));
        Check.none("no such PERSON", Check.who(x, 255, 1));
        Check.none("neither 0 nor 1", Check.who(x, 0, 2));
        Check.none("neither 0 nor 1", Check.who(x, 0, 255));
        Check.none("the last of six", Check.who(x, 0, 0, 1, 0, 2, 0, 3, 0, 4, 0, 5, 2));
        Check.due("the tape is empty then", x.count(5), 0);
    }

    private static void toldBothWays() {
        Check.says("by one who is told both ways it is nobody");
        KnockLane x = Check.lane(EIGHT + "knows a b;");
        Check.due("1, 0", Check.who(x, 0, 1, 0, 0), 0);
        Check.due("0, 1", Check.who(x, 0, 0, 0, 1), 0);
        Check.due("among others", Check.who(x, 2, 0, 0, 1, 3, 0, 0, 0), 0);
        Check.none("with a byte that is not as told", Check.who(x, 0, 1, 0, 0, 0, 2));
    }

    private static void askTheLeast() {
        Check.says("ASK: the PERSON by whom the greatest number of these that may still be left is the least");
        KnockLane x = Check.lane(EIGHT + "knows g a;knows g b;knows g c;knows f a;");
        Check.due("all but h", Check.who(x, 7, 0), 127);
        // g KNOWS three of them, three he does not KNOW, and himself: 3. All others leave 5 or more.
        Check.due("g", x.ask(), 6);
        x.undo();
        x.meets(1, 2);
        x.meets(1, 3);
        Check.due("all but h", Check.who(x, 7, 0), 127);
        Check.due("b KNOWS g, c and d: of like ones the first", x.ask(), 1);
        x = Check.lane(EIGHT + "knows h a;knows h b;knows h c;");
        Check.due("whom h KNOWS not", Check.who(x, 6, 0), 63 + 128);
        Check.due("h, who is one of them", x.ask(), 7);
        Check.due("whom h KNOWS", Check.who(x, 7, 1), 7);
        Check.due("a: the two others, or himself", x.ask(), 0);
    }

    private static void askHimself() {
        Check.says("those whom he KNOWS, those whom he does not, or himself (of like ones the first)");
        KnockLane x = Check.lane(Check.tramps("abc", 1));
        Check.due("b, c", Check.who(x, 0, 0), 6);
        Check.due("b: c, or himself", x.ask(), 1);
        Check.due("a, c", Check.who(x, 1, 0), 5);
        Check.due("a: c, or himself", x.ask(), 0);
        Check.due("c alone", Check.who(x, 0, 0, 1, 0), 4);
        Check.due("all are alike: a", x.ask(), 0);
    }

    private static void nothingElseIsDone() {
        Check.says("All by what would go on, if nothing else is done");
        KnockLane x = Check.lane("house i 5;person a tramp 3 up kind;person b tramp 9 down kind;calls a i;ear 1;stay 2;");
        Check.due("known()", x.known(), KnockLane.NONE);
        // a KNOCKS in TICK 2, b at 6 lets him in in TICK 3; in TICK 5 a is out at 6, b at 4; both turn, and meet at 4.
        Check.due("meet(0, 1)", x.meet(0, 1), 14);
        x.ticks(2);
        Check.due("he KNOCKS", Check.person(x, 0, 0), 1);
        Check.due("opens(0)", x.opens(0), 1);
        x.go(1, 2);
        Check.due("opens(0), if b stands", x.opens(0), KnockLane.NONE);
        x.undo();
        x.ticks(12);
        Check.due("they meet", Check.person(x, 0, 1), Check.person(x, 1, 1));
        Check.due("meet(0, 1)", x.meet(0, 1), 0);
    }

    private static void tick1000NoMatter() {
        Check.says("TICK 1000 no matter");
        KnockLane x = Check.lane("house i 5;person r i 0 stands kind;" + Check.tramps("a", 5) + Check.tramps("b", 9)
            + "knows a r;ear 0;");
        Check.go(x, 1000);
        x.go(2, 1);
        Check.due("meet(1, 2)", x.meet(1, 2), 4);
        x.knock(1, 0);
        Check.due("opens(1)", x.opens(1), 4);
        Check.due("known()", x.known(), 4);
        Check.none("meet(0, 1): r is at 0, and a is not out ahead of b's coming", x.meet(0, 1));
        Check.due("TICK", x.now(0), 1000);
    }

    private static void opensIfNotInTheLane() {
        Check.says("OPENS of one who is KNOCKING: behind how many TICKS he is INSIDE, if he is not in the LANE ahead of that.");
        KnockLane x = Check.lane("house i 5;" + Check.tramps("a", 5) + "person b tramp 8 down stern;" + Check.tramps("c", 9)
            + "knows a b;calls a i;ear 0;");
        x.knock(0, 0);
        // b comes to 5 in TICK 3 and shuts him out; a CALLS again in TICK 4, and nobody is there.
        Check.none("shut out", x.opens(0));
        x = Check.lane("house i 5;" + Check.tramps("a", 5) + Check.tramps("b", 6));
        x.knock(0, 0);
        Check.due("at once", x.opens(0), 1);
        x.ticks(1);
        Check.none("who is INSIDE", x.opens(0));
        Check.none("who is in the LANE", x.opens(1));
    }

    private static void knownBehind() {
        Check.says("KNOWN: behind how many TICKS no HOUSE has a STRANGER.");
        KnockLane x = Check.lane("house i 5;person r i 0 stands kind;" + Check.tramps("a", 5)
            + "person b tramp 7 down kind;knows a r;ear 0;");
        x.knock(1, 0);
        Check.due("b answers in TICK 2", x.known(), 2);
        x.ticks(2);
        Check.due("none has now", x.known(), 0);
        Check.due("now(4)", x.now(4), 0);
        x = Check.lane("house i 5;person r i 0 stands kind;house j 5;");
        Check.none("j, where nobody lives, has one for ever", x.known());
    }

    private static void meetBehind() {
        Check.says("MEET of two: behind how many TICKS both are in the LANE at one PLACE.");
        KnockLane x = Check.lane("house i 5;person a tramp 2 up kind;person b tramp 5 stands kind;person c tramp 3 down kind;");
        Check.due("meet(0, 1)", x.meet(0, 1), 3);
        Check.due("meet(1, 2)", x.meet(1, 2), 9);
        // Behind 10 TICKS a is at 7 and c at 6, behind 11 a at 6 and c at 7: they pass one another each time.
        Check.none("meet(0, 2)", x.meet(0, 2));
        x.knock(1, 0);
        // a, at 3, lets him in in TICK 1 and is at 5 in TICK 3; b is out in TICK 4, a at 5 again in TICK 12.
        Check.due("meet(0, 1)", x.meet(0, 1), 12);
    }

    private static void busiestTheFirst() {
        Check.says("BUSIEST: who OPENED most often (of like ones the first).");
        KnockLane x = Check.lane("house i 5;" + Check.tramps("ab", 5) + "stay 1;");
        Check.none("nobody", x.busiest());
        x.knock(0, 0);
        x.ticks(2);
        Check.due("b", x.busiest(), 1);
        x.knock(1, 0);
        x.ticks(2);
        Check.due("a and b alike", x.busiest(), 0);
        x.knock(0, 0);
        x.ticks(2);
        Check.due("b, twice", x.busiest(), 1);
    }

    private static void meanInLeastTerms() {
        Check.says("All fractions are told by two numbers: 0 above, 1 below, in least terms.");
        int[][] due = {{0, 1}, {1, 4}, {1, 2}, {3, 4}, {1, 1}, {5, 4}, {3, 2}, {7, 4}};
        KnockLane x = Check.lane(EIGHT);
        for (int n = 0; n < 8; n++) {
            Check.due("mean(0) of " + n + " pairs", Check.mean(x, 0), due[n][0]);
            Check.due("mean(1) of " + n + " pairs", Check.mean(x, 1), due[n][1]);
            Check.due("one pair more", x.meets(n < 7 ? 0 : 1, n < 7 ? n + 1 : 2), 0);
        }
        StringBuilder text = new StringBuilder("house i 1;");
        for (char p : "abcdefgh".toCharArray()) {
            text.append("person ").append(p).append(" i 1 up kind;");
        }
        x = Check.lane(text.toString());
        Check.due("all KNOW one another", Check.mean(x, 0) * 10 + Check.mean(x, 1), 71);
        x = Check.lane(Check.tramps("a", 1));
        Check.due("one alone", Check.mean(x, 0) * 10 + Check.mean(x, 1), 1);
        x = Check.lane(Check.tramps("abcdefg", 1) + "knows a b;");
        Check.due("2 by 7", Check.mean(x, 0) * 10 + Check.mean(x, 1), 27);
    }

    private static void tagInTheLane() {
        Check.says("TAG of a PERSON: his NAME, then ' at ', his PLACE as digits, a blank and his WAY's WORD");
        String[] ways = {"up", "down", "stands"};
        int[] places = {0, 9, 10, 19};
        for (String way : ways) {
            for (int place : places) {
                KnockLane x = Check.lane("lane 20;person abcdefgh tramp " + place + " " + way + " kind;");
                Check.due("tag(0)", Check.tag(x, 0), "abcdefgh at " + place + " " + way);
            }
        }
        KnockLane x = Check.lane("person z tramp 0 up kind;");
        Check.due("the shortest", x.tag(0), 9);
        Check.none("byteAt(9)", x.byteAt(9));
    }

    private static void tagAtADoor() {
        Check.says("or ' knocks at ' or ' in ' and the HOUSE's NAME.");
        KnockLane x = Check.lane("house abcdefgh 1;house z 1;person stuvwxyz tramp 1 up kind;" + Check.tramps("y", 1));
        x.knock(0, 0);
        Check.due("KNOCKING", Check.tag(x, 0), "stuvwxyz knocks at abcdefgh");
        Check.due("the longest", x.tag(0), 27);
        Check.due("its last byte", x.byteAt(26), 'h');
        Check.none("byteAt(27)", x.byteAt(27));
        x.ticks(1);
        Check.due("INSIDE", Check.tag(x, 0), "stuvwxyz in abcdefgh");
        x.knock(1, 1);
        Check.due("the other one", Check.tag(x, 1), "y knocks at z");
    }

    /** What the n-th draw's x is, by longs that do not wrap. */
    private static long drawn(long seed, int n) {
        long x = seed;
        for (int i = 0; i < n; i++) {
            x = (x * 1103515245L + 12345L) & 0xffffffffL;
        }
        return x;
    }

    /** One PERSON, no HOUSES: a draw of 8, and at 1 a draw of 3: his WAY. */
    private static int wayBehind(int seed, int way) {
        long first = drawn(seed & 0xffffffffL, 1) >> 8;
        return first % 8 == 1 ? (int) ((drawn(seed & 0xffffffffL, 2) >> 8) % 3) : way;
    }

    private static void drawsWrap() {
        Check.says("for each draw of n x becomes x * 1103515245 + 12345 (an int, wrapping)");
        int went = 0;
        int[] seeds = {0, 1, -1, Integer.MAX_VALUE, Integer.MIN_VALUE, Integer.MAX_VALUE - 1, 0x55555555, 0xaaaaaaaa};
        for (int i = 0; i < 400; i++) {
            int seed = i < seeds.length ? seeds[i] : i * 0x01234567;
            KnockLane x = Check.lane("lane 20;person a tramp 10 stands kind;");
            Check.due("drawn(1, " + seed + ")", x.drawn(1, seed), 1);
            Check.due("his WAY by " + seed, Check.person(x, 0, 2), wayBehind(seed, 2));
            went += Check.person(x, 0, 2) != 2 ? 1 : 0;
        }
        Check.due("some went", went > 10, true);
    }

    /** x is -1103502900 behind -1: 12466657 without a sign, 1 of 8, then 288979989: 1128828, 0 of 3. */
    private static void drawsAreUnsigned() {
        Check.says("the draw is (x >>> 8) % n");
        KnockLane x = Check.lane("lane 20;" + Check.tramps("a", 10));
        x.drawn(1, -1);
        Check.due("1: he GOES up", Check.person(x, 0, 2), 0);
        Check.due("in this TICK", Check.person(x, 0, 1), 11);
        // Behind the least int x is -2147471303: 8388656 without a sign, 0 of 8.
        x = Check.lane("house i 5;" + Check.tramps("a", 5));
        x.drawn(1, Integer.MIN_VALUE);
        Check.due("0: he KNOCKS", Check.person(x, 0, 0), 1);
    }

    private static int seedOf(int first) {
        for (int seed = 0; seed < 1000; seed++) {
            if ((drawn(seed, 1) >> 8) % 8 == first) {
                return seed;
            }
        }
        return -1;
    }

    private static void drawOf8() {
        Check.says("each TICK: PERSON by PERSON: a draw of 8: 0: a draw of all HOUSES (none: no draw): he KNOCKS there; "
            + "1: a draw of 3: he GOES that WAY; 2: a draw of all HOUSES (none: no draw): he is to CALL there; 3: he QUITS");
        for (int d = 0; d < 8; d++) {
            int seed = seedOf(d);
            int second = (int) ((drawn(seed, 2) >> 8) % 3);
            KnockLane x = Check.lane("house i 5;house j 5;house k 5;person a tramp 5 stands kind;ear 0;");
            x.drawn(1, seed);
            boolean knocks = d == 0 || d == 2;
            Check.due(d + ": how he is", Check.person(x, 0, 0), knocks ? 1 : 0);
            Check.due(d + ": where", Check.person(x, 0, 3), knocks ? second : -1);
            x = Check.lane("house i 4;house j 4;house k 4;person a tramp 5 stands kind;");
            x.drawn(1, seed);
            Check.due(d + ": he is to CALL", Check.person(x, 0, 6), d == 2 ? 1 << second : 0);
            Check.due(d + ": he can't KNOCK", Check.person(x, 0, 0), 0);
            x = Check.lane("house i 5;person a tramp 5 stands kind;");
            x.knock(0, 0);
            x.drawn(1, seed);
            Check.due(d + ": who KNOCKS", Check.person(x, 0, 0), d == 3 ? 0 : 1);
        }
    }

    /** Without HOUSES the second PERSON's draw follows the first one's at once. */
    private static void noHousesNoDraw() {
        Check.says("a draw of all HOUSES (none: no draw)");
        int told = 0;
        for (int seed = 0; seed < 300; seed++) {
            long first = (drawn(seed, 1) >> 8) % 8;
            long second = (drawn(seed, 2) >> 8) % 8;
            if ((first == 0 || first == 2) && second == 1) {
                KnockLane x = Check.lane("lane 20;" + Check.tramps("ab", 10));
                x.drawn(1, seed);
                Check.due("b's WAY by " + seed, Check.person(x, 1, 2), (drawn(seed, 3) >> 8) % 3);
                told++;
            }
        }
        Check.due("some such seeds", told > 3, true);
        KnockLane x = new KnockLane();
        Check.due("without PERSONS", x.drawn(60, 9), 60);
    }

    /** A draw is made though the act can't be: the next PERSON's comes behind it. */
    private static void eachIfItCanBe() {
        Check.says("(each, if it can be)");
        int told = 0;
        for (int seed = 0; seed < 300; seed++) {
            long first = (drawn(seed, 1) >> 8) % 8;
            long third = (drawn(seed, 3) >> 8) % 8;
            if (first <= 2 && third == 1) {
                KnockLane x = Check.lane("house i 5;person a i 5 stands kind;" + Check.tramps("b", 0) + "calls b i;");
                x.drawn(1, seed);
                Check.due("a is in the LANE", Check.person(x, 0, 0), 0);
                Check.due("b's WAY by " + seed, Check.person(x, 1, 2), (drawn(seed, 4) >> 8) % 3 == 1 ? 0 : (drawn(seed,
                    4) >> 8) % 3);
                Check.due("CALLS", x.now(5), 1);
                told++;
            }
        }
        Check.due("some such seeds", told > 3, true);
    }

    private static void thenTheTick() {
        Check.says("then the TICK.");
        KnockLane x = Check.lane("house i 5;" + Check.tramps("ab", 5) + "ear 0;");
        int seed = seedOf(0);
        KnockLane y = Check.lane("house i 5;" + Check.tramps("ab", 5) + "ear 0;");
        Check.due("a KNOCKS, b does nothing", (drawn(seed, 3) >> 8) % 8 > 3, true);
        x.drawn(1, seed);
        y.knock(0, 0);
        y.ticks(1);
        Check.due("a is let in", Check.person(x, 0, 0), 2);
        Check.due("as by hand", Check.all(x), Check.all(y));
    }

    /** Two PERSONS without HOUSES: each draws of 8, and of 3 behind a 1, TICK by TICK; no draw comes between. */
    private static void drawsGoOn() {
        Check.says("DRAWN by a seed x: for each draw of n");
        for (int seed = 0; seed < 40; seed++) {
            KnockLane x = Check.lane("lane 20;" + Check.tramps("ab", 10));
            KnockLane y = Check.lane("lane 20;" + Check.tramps("ab", 10));
            int n = 0;
            for (int t = 0; t < 9; t++) {
                for (int p = 0; p < 2; p++) {
                    n++;
                    if ((drawn(seed, n) >> 8) % 8 == 1) {
                        n++;
                        y.go(p, (int) ((drawn(seed, n) >> 8) % 3));
                    }
                }
                y.ticks(1);
            }
            Check.due("drawn(9, " + seed + ")", x.drawn(9, seed), 9);
            Check.due("as by hand", Check.all(x), Check.all(y));
        }
    }

    private static void aThrowChangesNothing() {
        Check.says("A call that throws changes nothing.");
        KnockLane x = Check.lane("house i 5;" + Check.tramps("ab", 5));
        x.knock(0, 0);
        x.tag(0);
        x.most();
        x.chain(0, 0);
        Check.sentence(x, "stern");
        Check.feed(x, "abc");
        String before = Check.whole(x);
        int[][] persons = {{-1, 0}, {2, 0}, {0, -1}, {0, 11}, {Integer.MAX_VALUE, Integer.MIN_VALUE}};
        for (int[] p : persons) {
            Check.due("person(" + p[0] + ", " + p[1] + ")", Check.person(x, p[0], p[1]), Check.THROWN);
        }
        Check.due("mean(2)", Check.mean(x, 2), Check.THROWN);
        Check.due("mean(-1)", Check.mean(x, -1), Check.THROWN);
        Check.due("nothing changed", Check.whole(x), before);
        Check.due("undo()", x.undo(), 0);
        x = new KnockLane();
        Check.due("mean(0)", Check.mean(x, 0), Check.THROWN);
        Check.due("person(0, 0)", Check.person(x, 0, 0), Check.THROWN);
        Check.due("a new object", Check.whole(x), Check.whole(new KnockLane()));
    }
}
