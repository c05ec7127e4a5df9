/** Promises 35 and 36: sentence and said. */
public final class SentenceTest {
    private static final String TEXT = "lane 6;house mill 1;house inn 4;person ann mill 1 stands kind;person bob mill 1 up kind;"
        + "person cid inn 4 down stern;person dan tramp 2 stands kind;person eve tramp 0 up stern;knows dan cid;knows eve bob;";

    public static void main(String[] args) {
        each();
        joined();
        asItIsNow();
        saids();
        faults();
        ones();
        within();
        longSentences();
        itStays();
        Check.finish("SentenceTest");
    }

    private static int bits(KnockLane x) {
        int bits = 0;
        for (int k = 0; k < x.said(-1); k++) {
            bits |= 1 << x.said(k);
        }
        return bits;
    }

    private static void good(KnockLane x, String text, int ones, int persons) {
        Check.due("sentence() of " + text, Check.sentence(x, text), ones);
        Check.due("fault() of " + text, x.fault(), 0);
        Check.due("tape behind " + text, x.count(5), 0);
        Check.due("said of " + text, bits(x), persons);
    }

    private static void each() {
        KnockLane x = Check.lane(TEXT);
        good(x, "walking", 1, 31);
        good(x, "knocking", 1, 0);
        good(x, "inside", 1, 0);
        good(x, "stern", 1, 20);
        good(x, "knows bob", 1, 17);
        good(x, "knows ann", 1, 2);
        good(x, "of mill", 1, 3);
        good(x, "of inn", 1, 4);
        good(x, "place < 1", 1, 16);
        good(x, "place=1", 1, 3);
        good(x, "place > 1", 1, 12);
        good(x, "known = 2", 1, 2);
        good(x, "known > 0", 1, 31);
        good(x, "known < 2", 1, 29);
        good(x, "waited = 0", 1, 31);
        good(x, "waited > 0", 1, 0);
        good(x, "number < 3", 1, 7);
        good(x, "number = 004", 1, 16);
        good(x, "number > 999", 1, 0);
        good(x, "not stern", 2, 11);
        good(x, "not not stern", 3, 20);
        good(x, "( stern )", 2, 20);
    }

    private static void joined() {
        KnockLane x = Check.lane(TEXT);
        good(x, "of mill or stern", 2, 23);
        good(x, "of mill and place = 1", 2, 3);
        good(x, "number = 0 or number = 1 and stern", 3, 1);
        good(x, "(number = 0 or number = 4) and stern", 4, 16);
        good(x, "stern and number = 4 or number = 0", 3, 17);
        good(x, "not stern and number > 0", 3, 10);
        good(x, "not (stern and number > 2)", 4, 15);
        good(x, "not (stern or not knows bob)", 5, 1);
        good(x, "number=0 or number=1 or number=2 and not stern or number=3", 6, 11);
        good(x, "not knows bob and place < 3", 3, 10);
    }

    private static void asItIsNow() {
        KnockLane x = Check.lane(TEXT);
        Check.sentence(x, "knocking or waited > 0");
        Check.due("nobody", bits(x), 0);
        Check.due("go", x.go(3, 1), 0);
        x.ticks(1);
        Check.due("knock", x.knock(3, 0), 0);
        Check.due("dan", bits(x), 8);
        x.undo();
        Check.due("undone", bits(x), 0);
        x.knock(3, 0);
        good(x, "walking", 1, 23);
        good(x, "inside", 1, 0);
        // cid KNOWS dan and not the mill's: he comes within 2 PLACES, stern, and shuts him out.
        x.ticks(1);
        good(x, "walking", 1, 31);
        Check.due("shut", x.now(7), 1);
    }

    private static void saids() {
        KnockLane x = Check.lane(TEXT);
        Check.due("no SENTENCE", x.said(-1), KnockLane.NONE);
        Check.due("no SENTENCE", x.said(0), KnockLane.NONE);
        Check.sentence(x, "stern");
        Check.due("how many", x.said(-1), 2);
        Check.due("the first", x.said(0), 2);
        Check.due("the second", x.said(1), 4);
        int[] none = {2, -2, Integer.MAX_VALUE, Integer.MIN_VALUE};
        for (int k : none) {
            Check.due("said(" + k + ")", x.said(k), KnockLane.NONE);
        }
        Check.sentence(x, "inside");
        Check.due("how many", x.said(-1), 0);
        Check.due("none such", x.said(0), KnockLane.NONE);
        x.quarter();
        Check.due("a new QUARTER has none", x.said(-1), KnockLane.NONE);
        Check.sentence(x, "not stern");
        Check.due("without PERSONS", x.said(-1), 0);
        Check.quarter(x, "person a tramp 0 up kind;person b tramp 0 up kind;person c tramp 0 up kind;person d tramp 0 up kind;"
            + "person e tramp 0 up kind;person f tramp 0 up kind;person g tramp 0 up kind;person h tramp 0 up kind;");
        Check.sentence(x, "not stern");
        Check.due("all of eight", x.said(-1), 8);
        Check.due("the eighth", x.said(7), 7);
        Check.due("a ninth", x.said(8), KnockLane.NONE);
    }

    private static void bad(String text, int kind, int place) {
        KnockLane x = Check.lane(TEXT);
        Check.due("sentence() of " + text, Check.sentence(x, text), -1 - place);
        Check.due("fault() of " + text, x.fault(), kind);
        Check.due("tape behind " + text, x.count(5), 0);
        Check.due("said behind " + text, x.said(-1), KnockLane.NONE);
    }

    private static void faults() {
        bad("", 1, 0);
        bad("  ", 1, 2);
        bad("ann", 1, 0);
        bad("kind", 1, 0);
        bad("and", 1, 0);
        bad("or", 1, 0);
        bad("5", 1, 0);
        bad(")", 1, 0);
        bad("stern;", 1, 5);
        bad("stern stern", 1, 6);
        bad("stern)", 1, 5);
        bad("stern and", 1, 9);
        bad("stern or and", 1, 9);
        bad("not", 1, 3);
        bad("not and", 1, 4);
        bad("(stern", 1, 6);
        bad("(stern;", 1, 6);
        bad("()", 1, 1);
        bad("knows", 1, 5);
        bad("knows stern", 1, 6);
        bad("knows 1", 1, 6);
        bad("of tramp", 1, 3);
        bad("place", 1, 5);
        bad("place 5", 1, 6);
        bad("place ( 5", 1, 6);
        bad("place ; 5", 1, 6);
        bad("place < ann", 1, 8);
        bad("place <", 1, 7);
        bad("place << 5", 1, 7);
        bad("place < 1000", 1, 8);
        bad("knows x", 3, 6);
        bad("knows mill", 3, 6);
        bad("of x", 3, 3);
        bad("of ann", 3, 3);
        bad("stern and knows x and", 3, 16);
        bad("stern or Stern", 1, 9);
    }

    private static void ones() {
        KnockLane x = Check.lane(TEXT);
        String twenty = "stern" + " or stern".repeat(19);
        good(x, twenty, 20, 20);
        bad(twenty + " or stern", 4, twenty.length() + 4);
        bad(twenty + " or place", 4, twenty.length() + 4);
        bad(twenty + " or (", 4, twenty.length() + 4);
        bad(twenty + " or not", 4, twenty.length() + 4);
        bad(twenty + " or ann", 1, twenty.length() + 4);
        bad(twenty + " or ", 1, twenty.length() + 4);
        good(x, "not stern" + " and not stern".repeat(9), 20, 11);
        good(x, "(stern)" + "and(stern)".repeat(9), 20, 20);
        String five = "stern" + " or stern".repeat(4);
        String brackets = "(" + five + ")or(" + five + ")or(" + five + ") or not ";
        good(x, brackets + "stern", 20, 31);
        bad(brackets + "not stern", 4, brackets.length() + 4);
    }

    private static void within() {
        KnockLane x = Check.lane(TEXT);
        good(x, "not ".repeat(7) + "stern", 8, 11);
        bad("not ".repeat(8) + "stern", 4, 32);
        good(x, "(".repeat(7) + "stern" + ")".repeat(7), 8, 20);
        bad("(".repeat(8) + "stern" + ")".repeat(8), 4, 8);
        bad("(".repeat(8) + ")", 1, 8);
        bad("(".repeat(9), 4, 8);
        bad("not ".repeat(9), 4, 32);
        good(x, "not (not (not (not stern or stern)))", 9, 0);
        bad("not (not (not (not (stern))))", 4, 20);
        good(x, "(((((((stern)and stern)and stern)and stern)and stern)and stern)and stern)and stern", 15, 20);
    }

    private static void longSentences() {
        KnockLane x = Check.lane(TEXT);
        good(x, "stern" + " ".repeat(195), 1, 20);
        bad("stern" + " ".repeat(196), 1, 200);
        good(x, " ".repeat(195) + "stern", 1, 20);
        bad(" ".repeat(196) + "stern", 1, 200);
        bad(" ".repeat(196) + "sterns", 1, 196);
        bad(" ".repeat(199) + "stern", 1, 200);
        bad(" ".repeat(195) + "knows x", 1, 200);
        bad(" ".repeat(193) + "knows x", 3, 199);
        bad(" ".repeat(193) + "knows xx", 3, 199);
        bad(" ".repeat(193) + "knows bob", 1, 200);
        bad("stern x" + " ".repeat(300), 1, 6);
        bad("stern or" + " ".repeat(300), 1, 200);
    }

    private static void itStays() {
        KnockLane x = Check.lane(TEXT);
        Check.sentence(x, "stern");
        Check.due("a FAULT", Check.sentence(x, "walking or"), -11);
        Check.due("it stays", bits(x), 20);
        Check.due("a FAULT", Check.sentence(x, "not knows x"), -11);
        Check.due("it stays", bits(x), 20);
        x.book(0);
        Check.due("fault() is of the latest", x.fault(), 0);
    }
}
