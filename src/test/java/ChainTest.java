/** Promises 20 to 23: chain, chainAt, who, ask. */
public final class ChainTest {
    private static final String EIGHT = persons("abcdefgh");

    public static void main(String[] args) {
        chains();
        theFirstChain();
        theLongest();
        whoIsIt();
        whoNotAsTold();
        whomToAsk();
        askByWhatWasSo();
        Check.finish("ChainTest");
    }

    private static String persons(String names) {
        StringBuilder text = new StringBuilder();
        for (char p : names.toCharArray()) {
            text.append("person ").append(p).append(" tramp 1 up kind;");
        }
        return text.toString();
    }

    private static void chain(KnockLane x, int p, int q, int... due) {
        Check.due("chain(" + p + ", " + q + ")", x.chain(p, q), due.length - 1);
        at(x, due);
    }

    private static void at(KnockLane x, int... due) {
        for (int k = 0; k < due.length; k++) {
            Check.due("chainAt(" + k + ")", x.chainAt(k), due[k]);
        }
        Check.due("chainAt(" + due.length + ")", x.chainAt(due.length), KnockLane.NONE);
        Check.due("chainAt(-1)", x.chainAt(-1), KnockLane.NONE);
    }

    private static void chains() {
        KnockLane x = Check.lane(persons("abcd") + "knows a b;knows b c;");
        Check.due("chainAt(0) ahead of any", x.chainAt(0), KnockLane.NONE);
        Check.due("chain(0, 3)", x.chain(0, 3), KnockLane.NONE);
        Check.due("chainAt(0) ahead of any", x.chainAt(0), KnockLane.NONE);
        chain(x, 0, 1, 0, 1);
        chain(x, 1, 0, 1, 0);
        chain(x, 0, 2, 0, 1, 2);
        int[][] none = {{0, 3}, {3, 0}, {-1, 0}, {0, -1}, {4, 0}, {0, 4}, {4, 4}, {-1, -1}, {0, 32}, {0, 33}, {32, 0}, {34, 1}};
        for (int[] n : none) {
            Check.due("chain(" + n[0] + ", " + n[1] + ")", x.chain(n[0], n[1]), KnockLane.NONE);
            at(x, 0, 1, 2);
        }
        chain(x, 3, 3, 3);
        Check.due("chainAt(most)", x.chainAt(Integer.MAX_VALUE), KnockLane.NONE);
    }

    private static void theFirstChain() {
        KnockLane x = Check.lane(EIGHT + "knows a d;knows a c;knows a h;knows c g;knows d e;knows e f;knows g f;knows h b;knows b f;");
        chain(x, 0, 5, 0, 2, 6, 5);
        chain(x, 5, 0, 5, 1, 7, 0);
        x.meets(3, 5);
        chain(x, 0, 5, 0, 3, 5);
        x.meets(0, 5);
        chain(x, 0, 5, 0, 5);
    }

    private static void theLongest() {
        KnockLane x = Check.lane(EIGHT + "knows a c;knows c b;knows b h;knows h d;knows d f;knows f e;knows e g;");
        chain(x, 0, 6, 0, 2, 1, 7, 3, 5, 4, 6);
        chain(x, 6, 0, 6, 4, 5, 3, 7, 1, 2, 0);
        KnockLane home = Check.lane("house k 1;person a k 1 up kind;person b k 1 up kind;");
        chain(home, 0, 1, 0, 1);
    }

    private static void whoIsIt() {
        KnockLane x = Check.lane(persons("abcde") + "knows a b;knows a c;knows b c;knows d c;");
        Check.due("whom a KNOWS", Check.who(x, 0, 1), 6);
        Check.due("whom a does not", Check.who(x, 0, 0), 8 + 16);
        Check.due("whom a and b KNOW", Check.who(x, 0, 1, 1, 1), 4);
        Check.due("whom a KNOWS and b does not", Check.who(x, 0, 1, 1, 0), 0);
        Check.due("whom neither KNOWS", Check.who(x, 0, 0, 1, 0), 8 + 16);
        Check.due("not one of those told", Check.who(x, 1, 0, 3, 0), 16);
        Check.due("told twice alike", Check.who(x, 0, 1, 0, 1), 6);
        Check.due("told both ways", Check.who(x, 0, 1, 0, 0), 0);
        Check.due("told both ways, the other way round", Check.who(x, 4, 0, 1, 1, 4, 1), 0);
        Check.due("six", Check.who(x, 0, 1, 0, 1, 0, 1, 0, 1, 1, 1, 1, 1), 4);
        Check.due("all told", Check.who(x, 0, 0, 1, 0, 2, 0, 3, 0, 4, 0), 0);
        Check.due("the tape is empty then", x.count(5), 0);
    }

    private static void whoNotAsTold() {
        KnockLane x = Check.lane(persons("ab"));
        Check.due("no bytes", Check.who(x), KnockLane.NONE);
        Check.due("one byte", Check.who(x, 0), KnockLane.NONE);
        Check.due("three bytes", Check.who(x, 0, 1, 1), KnockLane.NONE);
        Check.due("seven pairs", Check.who(x, 0, 0, 0, 0, 0, 0, 0, 0, 0, 0, 0, 0, 0, 0), KnockLane.NONE);
        Check.due("no PERSON", Check.who(x, 2, 0), KnockLane.NONE);
        Check.due("no PERSON", Check.who(x, 255, 0), KnockLane.NONE);
        Check.due("neither 0 nor 1", Check.who(x, 0, 2), KnockLane.NONE);
        Check.due("neither 0 nor 1", Check.who(x, 0, 255), KnockLane.NONE);
        Check.due("the second pair", Check.who(x, 0, 0, 1, 3), KnockLane.NONE);
        Check.due("the second pair", Check.who(x, 0, 0, 9, 1), KnockLane.NONE);
        Check.due("no PERSON, told both ways", Check.who(x, 0, 0, 0, 1, 7, 1), KnockLane.NONE);
        Check.due("the tape is empty then", x.count(5), 0);
        Check.due("ask() ahead of any", x.ask(), KnockLane.NONE);
        Check.due("pairs again", Check.who(x, 0, 0), 2);
        Check.due("ask()", x.ask(), 0);
    }

    private static void whomToAsk() {
        KnockLane x = Check.lane(persons("abcde") + "knows b c;knows b d;");
        Check.due("whom e does not KNOW", Check.who(x, 4, 0), 15);
        Check.due("b parts them best", x.ask(), 1);
        Check.due("nobody", Check.who(x, 0, 1), 0);
        Check.due("ask() by the latest above 0", x.ask(), 1);
        Check.due("c and d", Check.who(x, 1, 1), 12);
        Check.due("c, the first of those who are not both left", x.ask(), 2);
        Check.due("one", Check.who(x, 0, 0, 1, 0, 2, 0, 3, 0), 16);
        Check.due("all are alike", x.ask(), 0);
        Check.due("c and d", Check.who(x, 1, 1), 12);
        Check.due("c again", x.ask(), 2);
        Check.due("a alone", Check.who(x, 1, 0, 2, 0, 3, 0, 4, 0), 1);
        Check.due("all are alike", x.ask(), 0);
        // Whom h does not KNOW: a..g. c KNOWS a, b, d; e, f, g and himself are the others: 3.
        x = Check.lane(EIGHT + "knows c a;knows c b;knows c d;knows e a;");
        Check.due("seven", Check.who(x, 7, 0), 127);
        Check.due("c", x.ask(), 2);
        x = Check.lane(persons("abc"));
        Check.due("two", Check.who(x, 2, 0), 3);
        Check.due("by himself", x.ask(), 0);
        x = Check.lane(persons("abc"));
        Check.due("two", Check.who(x, 0, 0), 6);
        Check.due("by himself, not by who was told", x.ask(), 1);
    }

    private static void askByWhatWasSo() {
        KnockLane x = Check.lane(persons("abcde") + "knows b c;knows b d;");
        Check.who(x, 4, 0);
        x.meets(0, 1);
        x.meets(0, 2);
        Check.due("what was so then", x.ask(), 1);
        Check.who(x, 4, 0);
        Check.due("what is so now", x.ask(), 0);
        x.quarter();
        Check.due("ask() behind a quarter()", x.ask(), 0);
    }
}
