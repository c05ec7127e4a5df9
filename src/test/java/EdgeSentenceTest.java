/** Terms and Promises 35, 36: the SENTENCE, sentence by sentence. */
public final class EdgeSentenceTest {
    /** a is INSIDE h for 9 TICKS, b KNOCKS at g and has waited one TICK, c and d walk; places 4, 0, 6, 9; d KNOWS nobody. */
    private static final String LANE = "house h 4;house g 0;person a tramp 4 stands kind;person b h 0 stands stern;"
        + "person c g 6 stands kind;person d tramp 9 stands stern;stay 9;";

    public static void main(String[] args) {
        atMost200Bytes();
        orAndAnd();
        notBinds();
        brackets();
        walking();
        knocking();
        inside();
        stern();
        knows();
        of();
        place();
        known();
        waited();
        number();
        smallestAndGreatestNumber();
        twentyOnes();
        eightWithin();
        ofNoPersons();
        ofEightPersons();
        howManyOnes();
        itStays();
        saids();
        noSentence();
        Check.finish("EdgeSentenceTest");
    }

    private static KnockLane lane() {
        KnockLane x = Check.lane(LANE);
        Check.due("a KNOCKS", x.knock(0, 0), 0);
        Check.due("b KNOCKS", x.knock(1, 1), 0);
        Check.due("one TICK", x.ticks(1), 1);
        Check.due("c let a in", x.now(3), 1);
        Check.due("b waits", x.now(2), 2);
        return x;
    }

    private static void said(String text, int ones, int bits) {
        KnockLane x = lane();
        Check.due("sentence() of " + text, Check.sentence(x, text), ones);
        Check.due("said of " + text, Check.saidBits(x), bits);
        Check.due("fault() of " + text, x.fault(), 0);
    }

    private static void bad(String text, int kind, int place) {
        Check.badSentence(LANE, text, kind, place);
    }

    private static void atMost200Bytes() {
        Check.says("A SENTENCE is a text of at most 200 bytes");
        said("stern" + " ".repeat(195), 1, 10);
        bad("stern" + " ".repeat(196), 1, 200);
        said(" ".repeat(195) + "stern", 1, 10);
        bad(" ".repeat(196) + "stern", 1, 200);
        String text = "walking" + " or walking".repeat(17);
        Check.due("it has 194", text.length(), 194);
        said(text + "\n\n\n\n\n\n", 18, 12);
        bad(text + "\n\n\n\n\n\n\n", 1, 200);
        bad("", 1, 0);
    }

    private static void orAndAnd() {
        Check.says("COND: ALL { 'or' ALL }. ALL: ONE { 'and' ONE }.");
        said("number = 0 or number = 1 and number = 2", 3, 1);
        said("number = 1 and number = 2 or number = 0", 3, 1);
        said("number = 0 or number = 1 or number = 2", 3, 7);
        said("number < 3 and number > 0 and number < 2", 3, 2);
        said("number=0 and stern or number=1 and stern or walking and number=3", 6, 10);
        bad("stern or", 1, 8);
        bad("stern and", 1, 9);
        bad("or stern", 1, 0);
        bad("and stern", 1, 0);
        bad("stern or or stern", 1, 9);
        bad("stern and or stern", 1, 10);
        bad("stern not stern", 1, 6);
    }

    private static void notBinds() {
        Check.says("ONE: 'not' ONE");
        said("not stern", 2, 5);
        said("not stern and number > 0", 3, 4);
        said("not stern or number = 1", 3, 7);
        said("not not stern", 3, 10);
        said("not (stern and number = 1)", 4, 13);
        bad("not", 1, 3);
        bad("not or", 1, 4);
        bad("not )", 1, 4);
    }

    private static void brackets() {
        Check.says("( COND )");
        said("(stern)", 2, 10);
        said("(number = 0 or number = 1) and stern", 4, 2);
        said("stern and (number = 0 or number = 1)", 4, 2);
        bad("(stern", 1, 6);
        bad("stern)", 1, 5);
        bad("()", 1, 1);
        bad("(stern))", 1, 7);
        bad("((stern)", 1, 8);
        bad("(stern stern)", 1, 7);
    }

    private static void walking() {
        Check.says("'walking' (he is in the LANE)");
        said("walking", 1, 12);
        said("not walking", 2, 3);
    }

    private static void knocking() {
        Check.says("'knocking'");
        said("knocking", 1, 2);
    }

    private static void inside() {
        Check.says("'inside'");
        said("inside", 1, 1);
    }

    private static void stern() {
        Check.says("'stern'");
        said("stern", 1, 10);
        bad("kind", 1, 0);
    }

    /** c KNOWS a, whom he let in, and who live in h: b. */
    private static void knows() {
        Check.says("'knows' PERSON");
        said("knows a", 1, 4);
        said("knows b", 1, 4);
        said("knows c", 1, 3);
        said("knows d", 1, 0);
        bad("knows", 1, 5);
        bad("knows h", 3, 6);
        bad("knows x", 3, 6);
        bad("knows stern", 1, 6);
    }

    private static void of() {
        Check.says("'of' HOUSE (he lives there)");
        said("of h", 1, 2);
        said("of g", 1, 4);
        said("not of h and not of g", 4, 9);
        bad("of", 1, 2);
        bad("of a", 3, 3);
        bad("of x", 3, 3);
        bad("of tramp", 1, 3);
    }

    private static void place() {
        Check.says("( 'place' | 'known' | 'waited' | 'number' ) SIGN NUMBER (his PLACE");
        said("place < 4", 1, 2);
        said("place = 4", 1, 1);
        said("place > 4", 1, 12);
        said("place < 5", 1, 3);
        said("place > 3", 1, 13);
        said("place < 0", 1, 0);
        said("place > 9", 1, 0);
        said("place = 9", 1, 8);
        bad("place", 1, 5);
        bad("place <", 1, 7);
        bad("place 4", 1, 6);
        bad("place < place", 1, 8);
        bad("place < = 4", 1, 8);
        bad("4 < place", 1, 0);
    }

    private static void known() {
        Check.says("how many he KNOWS");
        said("known = 0", 1, 8);
        said("known = 1", 1, 3);
        said("known = 2", 1, 4);
        said("known > 1", 1, 4);
        said("known < 1", 1, 8);
    }

    private static void waited() {
        Check.says("TICKS waited so far");
        said("waited = 1", 1, 2);
        said("waited < 1", 1, 13);
        said("waited > 0", 1, 2);
        said("waited > 1", 1, 0);
        KnockLane x = lane();
        x.quit(1);
        Check.sentence(x, "waited = 1");
        Check.due("behind a quit()", Check.saidBits(x), 2);
        x.knock(1, 1);
        x.ticks(1);
        Check.due("and one TICK more", Check.saidBits(x), 0);
        Check.sentence(x, "waited = 2");
        Check.due("two", Check.saidBits(x), 2);
    }

    private static void number() {
        Check.says("his number");
        for (int p = 0; p < 4; p++) {
            said("number = " + p, 1, 1 << p);
            said("number < " + p, 1, (1 << p) - 1);
            said("number > " + p, 1, 15 & -2 << p);
        }
        said("number = 4", 1, 0);
    }

    private static void smallestAndGreatestNumber() {
        Check.says("SIGN NUMBER");
        said("number < 0", 1, 0);
        said("number < 000", 1, 0);
        said("number > 0", 1, 14);
        said("number < 999", 1, 15);
        said("number > 999", 1, 0);
        bad("number < 1000", 1, 9);
        bad("number < 0999", 1, 9);
    }

    private static void twentyOnes() {
        Check.says("20 ONES");
        said("stern" + " or stern".repeat(18), 19, 10);
        said("stern" + " or stern".repeat(19), 20, 10);
        bad("stern" + " or stern".repeat(20), 4, 180);
        said("inside or ".repeat(19) + "stern", 20, 11);
        said("stern" + " or inside".repeat(19), 20, 11);
        said("not stern" + " and not stern".repeat(9), 20, 5);
        said("(stern)" + "or(stern)".repeat(9), 20, 10);
        bad("not stern" + " and not stern".repeat(9) + " or stern", 4, 139);
        bad("(stern)" + "or(stern)".repeat(9) + "or(", 4, 90);
        bad("stern" + " or stern".repeat(18) + " or not stern", 4, 175);
    }

    private static void eightWithin() {
        Check.says("8 within one another");
        said("not ".repeat(6) + "stern", 7, 10);
        said("not ".repeat(7) + "stern", 8, 5);
        bad("not ".repeat(8) + "stern", 4, 32);
        said("(".repeat(7) + "stern" + ")".repeat(7), 8, 10);
        bad("(".repeat(8) + "stern" + ")".repeat(8), 4, 8);
        said("not(".repeat(3) + "not stern" + ")".repeat(3), 8, 10);
        bad("not(".repeat(4) + "stern" + ")".repeat(4), 4, 16);
        said("not ".repeat(7) + "stern or " + "not ".repeat(7) + "walking", 16, 7);
        said("(".repeat(7) + "stern" + " or stern".repeat(5) + ")".repeat(7) + " and stern", 14, 10);
        bad("(".repeat(7) + "stern or not stern" + ")".repeat(7), 4, 20);
    }

    private static void ofNoPersons() {
        Check.says("It is said of PERSONS.");
        KnockLane x = new KnockLane();
        Check.due("sentence()", Check.sentence(x, "not stern"), 2);
        Check.due("said(-1)", x.said(-1), 0);
        Check.none("said(0)", x.said(0));
    }

    private static void ofEightPersons() {
        Check.says("PERSONS of whom it may be said: how many (k NONE), or the k-th.");
        KnockLane x = Check.lane(Check.tramps("abcdefgh", 3));
        Check.sentence(x, "not stern");
        Check.due("said(-1)", x.said(-1), 8);
        for (int k = 0; k < 8; k++) {
            Check.due("said(" + k + ")", x.said(k), k);
        }
        Check.none("said(8)", x.said(8));
        Check.sentence(x, "number > 6 or number = 2");
        Check.due("said(-1)", x.said(-1), 2);
        Check.due("said(0)", x.said(0), 2);
        Check.due("said(1)", x.said(1), 7);
        Check.none("said(2)", x.said(2));
    }

    private static void howManyOnes() {
        Check.says("The tape is the SENTENCE now: how many ONES (each not, bracket and other one)");
        said("stern", 1, 10);
        said("not stern", 2, 5);
        said("(stern)", 2, 10);
        said("not (stern)", 3, 5);
        said("stern or stern", 2, 10);
        KnockLane x = lane();
        Check.feed(x, "stern");
        Check.due("sentence()", x.sentence(), 1);
        Check.due("the tape is empty then", x.count(5), 0);
        for (int i = 0; i < 12; i++) {
            Check.due("one behind another", Check.sentence(x, "inside or ".repeat(18) + "number = " + i % 4), 19);
            Check.due("the latest is said", Check.saidBits(x), 1 | 1 << i % 4);
        }
    }

    private static void itStays() {
        Check.says("-1 less the place of a FAULT: it stays.");
        KnockLane x = lane();
        Check.due("ahead of any", Check.sentence(x, ";"), -1);
        Check.none("none was there, none is", x.said(-1));
        Check.sentence(x, "stern");
        Check.due("at 0", Check.sentence(x, ";"), -1);
        Check.due("at 8", Check.sentence(x, "walking ;"), -9);
        Check.due("at 200", Check.sentence(x, "walking" + " ".repeat(194)), -201);
        Check.due("the first one is said yet", Check.saidBits(x), 10);
        Check.due("the tape is empty then", x.count(5), 0);
    }

    private static void saids() {
        Check.says("NONE: there is no SENTENCE, none such.");
        KnockLane x = lane();
        Check.sentence(x, "stern");
        int[] none = {2, 3, 8, 31, 32, -2, Integer.MAX_VALUE, Integer.MIN_VALUE};
        for (int k : none) {
            Check.none("said(" + k + ")", x.said(k));
        }
        Check.sentence(x, "place > 9");
        Check.due("of nobody", x.said(-1), 0);
        Check.none("said(0)", x.said(0));
    }

    private static void noSentence() {
        Check.says("there is no SENTENCE");
        KnockLane x = new KnockLane();
        Check.none("new: said(-1)", x.said(-1));
        Check.none("new: said(0)", x.said(0));
        Check.sentence(x, "stern");
        Check.due("a FAULT of a quarter()", Check.quarter(x, "lane"), -5);
        Check.due("leaves it", x.said(-1), 0);
        Check.quarter(x, "");
        Check.none("a new QUARTER has none", x.said(-1));
    }
}
