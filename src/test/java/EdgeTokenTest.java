/** Terms: TOKENS and FAULTS, sentence by sentence: what is just allowed, and what is just not. */
public final class EdgeTokenTest {
    private static final String SIX = "house a 1;house b 2;house c 3;house d 4;house e 5;house f 6;";
    private static final String P = "person p tramp 5 up kind;";
    private static final String Q = "person q tramp 5 up kind;";
    private static final String LANE = "house h 5;" + P + Q;

    public static void main(String[] args) {
        blanks();
        wordsOfEightLetters();
        lettersFromAToZ();
        numbersOfThreeDigits();
        digitsFrom0To9();
        signs();
        aRunGoesOn();
        theFirstAlongTheText();
        ofOneTokenTheLeast();
        cannotCome();
        theEnd();
        moreThanTheMost();
        beginAheadOfTheMost();
        aFaultAheadOfTheMost();
        numbersNotAsTold();
        placesNotInTheLane();
        toldTwice();
        notTold();
        ofAnotherSort();
        pairsOfKnows();
        housesToCallAt();
        laneTooLate();
        earAndStayAgain();
        meetsHimself();
        oneMoreOfASort();
        theLine41();
        theOne21();
        theNinthWithin();
        Check.finish("EdgeTokenTest");
    }

    private static boolean goesOn(int b) {
        return b >= 'a' && b <= 'z' || b >= '0' && b <= '9';
    }

    private static void blanks() {
        Check.says("TOKENS of all texts, with blanks (32, 10) between them or not");
        for (int b = 0; b < 256; b++) {
            String text = "lane" + (char) b + "5;";
            if (b == 32 || b == 10) {
                Check.goodQuarter(text, 1);
            } else {
                Check.badQuarter(text, 1, goesOn(b) ? 0 : 4);
            }
        }
        Check.goodQuarter("\n\n lane \n 5 \n ;\n ", 1);
        KnockLane x = Check.lane(LANE);
        Check.due("none between them", Check.sentence(x, "(place<5)and(stern)"), 4);
        Check.due("many between them", Check.sentence(x, " ( place \n<\n 5 )\n\nand ( stern ) "), 4);
        Check.due("a BOOK", Check.book(x, 0, "\ntick\n1 ;p  goes\ndown\n;"), KnockLane.NONE);
    }

    private static void wordsOfEightLetters() {
        Check.says("WORDS: small letters, 1 to 8");
        Check.goodQuarter("house a 1;", 1);
        Check.goodQuarter("house abcdefgh 1;", 1);
        Check.badQuarter("house abcdefghi 1;", 1, 6);
        Check.badQuarter("person abcdefghi tramp 1 up kind;", 1, 7);
        Check.badQuarter("house abcdefgh 1;person p abcdefghi 1 up kind;", 1, 26);
        Check.badBook(LANE, "abcdefghi quits;", 1, 0);
        Check.badSentence(LANE, "knows abcdefghi", 1, 6);
        KnockLane x = Check.lane("house abcdefgh 1;house abcdefgi 1;person bcdefghi tramp 1 up kind;person zzzzzzzz "
            + "tramp 1 up kind;");
        Check.due("all eight letters tell it", Check.book(x, 0, "bcdefghi knocks abcdefgi;zzzzzzzz knocks abcdefgh;"), -1);
        Check.due("tag()", Check.tag(x, 1), "zzzzzzzz at 1 up");
    }

    private static void lettersFromAToZ() {
        Check.says("WORDS: small letters");
        for (int b = 33; b < 256; b++) {
            boolean letter = b >= 'a' && b <= 'z';
            if (letter) {
                Check.goodQuarter("house " + (char) b + " 1;", 1);
            } else {
                Check.badQuarter("house " + (char) b + " 1;", 1, 6);
            }
        }
        Check.badQuarter("house hH 1;", 1, 7);
        Check.badQuarter("house h` 1;", 1, 7);
        Check.badQuarter("house h{ 1;", 1, 7);
    }

    private static void numbersOfThreeDigits() {
        Check.says("NUMBERS: 1 to 3 digits");
        String[] sevens = {"7", "07", "007"};
        for (String seven : sevens) {
            KnockLane x = Check.lane("lane " + seven + ";");
            Check.due("lane " + seven, x.count(2), 7);
        }
        Check.badQuarter("lane 0007;", 1, 5);
        Check.badQuarter("lane 999;", 2, 5);
        Check.badQuarter("lane 1000;", 1, 5);
        Check.badBook(LANE, "tick 0001;", 1, 5);
        Check.badSentence(LANE, "place = 0005", 1, 8);
    }

    private static void digitsFrom0To9() {
        Check.says("digits");
        for (int d = 0; d < 10; d++) {
            KnockLane x = Check.lane("lane 1" + d + ";");
            Check.due("lane 1" + d, x.count(2), 10 + d);
        }
        Check.badQuarter("lane /;", 1, 5);
        Check.badQuarter("lane :;", 1, 5);
        Check.badQuarter("lane 5/;", 1, 6);
        Check.badQuarter("lane 5:;", 1, 6);
        Check.badQuarter("lane -5;", 1, 5);
        Check.badQuarter("lane +5;", 1, 5);
    }

    /** Each byte where a SIGN must stand: a blank leaves the NUMBER behind it there. */
    private static void signs() {
        Check.says("; < = > ( ) .");
        for (int b = 0; b < 256; b++) {
            String text = "place " + (char) b + " 5";
            if (b == '<' || b == '=' || b == '>') {
                Check.due("sentence() of " + text, Check.sentence(Check.lane(LANE), text), 1);
            } else {
                Check.badSentence(LANE, text, 1, b == 32 || b == 10 ? 8 : 6);
            }
        }
        Check.goodQuarter("lane 5;", 1);
        String[] others = {".", ":", ",", "<", ">", "=", "(", ")"};
        for (String other : others) {
            Check.badQuarter("lane 5" + other, 1, 6);
        }
        Check.badSentence(LANE, "(stern.", 1, 6);
        Check.badSentence(LANE, "[stern]", 1, 0);
    }

    private static void aRunGoesOn() {
        Check.says("A WORD, NUMBER goes on as long as small letters and digits do; what is not as told is no TOKEN.");
        Check.badQuarter("lane5;", 1, 0);
        Check.badQuarter("lane 5a;", 1, 5);
        Check.badQuarter("house h1 5;", 1, 6);
        Check.badQuarter("house 1h 5;", 1, 6);
        Check.badQuarter("house h5;", 1, 6);
        Check.badQuarter("house abcd1fgh 5;", 1, 6);
        Check.badQuarter("lane1 5;", 1, 0);
        Check.badSentence(LANE, "place<5and stern", 1, 6);
        Check.badBook(LANE, "tick 5p goes up;", 1, 5);
        Check.badQuarter("laneX5;", 1, 4);
        Check.badQuarter("lane 5X;", 1, 6);
    }

    private static void theFirstAlongTheText() {
        Check.says("FAULTS, the first along the text");
        String[] lines = {"up 5;", "ear 10;", "knows x x;", "house g 1;"};
        int[] places = {0, 4, 6, 0};
        for (int i = 0; i < 4; i++) {
            for (String behind : lines) {
                Check.badQuarter(SIX + lines[i] + behind, i + 1, SIX.length() + places[i]);
            }
        }
        Check.badBook(LANE, "tick 0;x quits;", 2, 5);
        Check.badBook(LANE, "x quits;tick 0;", 3, 0);
        Check.badSentence(LANE, "knows x or place < <", 3, 6);
        Check.badSentence(LANE, "place < < or knows x", 1, 8);
    }

    private static void ofOneTokenTheLeast() {
        Check.says("of one TOKEN the least");
        String forty = "tick 1;".repeat(40);
        Check.badBook(LANE, forty + "x quits;", 3, 280);
        Check.badBook(LANE, forty + "h quits;", 3, 280);
        Check.badBook(LANE, forty + "quits;", 1, 280);
        Check.badBook(LANE, forty + "x1 quits;", 1, 280);
        String twenty = "stern" + " or stern".repeat(19) + " or ";
        Check.badSentence(LANE, twenty + "p", 1, twenty.length());
        Check.badSentence(LANE, twenty + "5", 1, twenty.length());
        Check.badSentence(LANE, "not ".repeat(8) + "p", 1, 32);
        Check.badQuarter(P + "house p 1;house lane 1;", 3, 31);
        Check.badQuarter(P + "house lane 1;house p 1;", 1, 31);
    }

    private static void cannotCome() {
        Check.says("1 no TOKEN, or one that can't come (at it");
        Check.badQuarter("\u0000", 1, 0);
        Check.badQuarter(" \n;", 1, 2);
        Check.badQuarter("lane ;", 1, 5);
        Check.badQuarter("lane 5 5;", 1, 7);
        Check.badQuarter("house h up;", 1, 8);
        Check.badQuarter("person p tramp 5 5 kind;", 1, 17);
        Check.badQuarter("person p tramp 5 left kind;", 1, 17);
        Check.badQuarter("person p tramp 5 up mild;", 1, 20);
        Check.badBook(LANE, "p p;", 1, 2);
        Check.badSentence(LANE, "stern stern", 1, 6);
    }

    private static void theEnd() {
        Check.says("the end: how many bytes there are");
        String[] cuts = {"lane", "lane 5", "ear", "ear 5", "stay", "stay 5", "house", "house h", "house h "
            + "5", "person", "person p",
            "person p tramp", "person p tramp 5", "person p tramp 5 up", "person p tramp 5 up kind", P + "knows", P + "knows p",
            P + Q + "knows p q", P + "calls", P + "calls p", LANE + "calls p h"};
        for (String cut : cuts) {
            Check.badQuarter(cut, 1, cut.length());
            Check.badQuarter(cut + " \n", 1, cut.length() + 2);
        }
        Check.badQuarter("lane 5" + " ".repeat(894), 1, 900);
        Check.badBook(LANE, "tick 5", 1, 6);
        Check.badBook(LANE, "p quits ", 1, 8);
        Check.badBook(LANE, "tick 5" + " ".repeat(394), 1, 400);
        Check.badSentence(LANE, "", 1, 0);
        Check.badSentence(LANE, "\n ", 1, 2);
        Check.badSentence(LANE, "stern or", 1, 8);
        Check.badSentence(LANE, "not" + " ".repeat(197), 1, 200);
    }

    private static void moreThanTheMost() {
        Check.says("the most bytes told, if there are more");
        Check.goodQuarter(" ".repeat(900), 0);
        Check.badQuarter(" ".repeat(901), 1, 900);
        Check.badQuarter(" ".repeat(940), 1, 900);
        Check.badQuarter("lane 5" + " ".repeat(895), 1, 900);
        Check.badQuarter(" ".repeat(894) + "lane 5;", 1, 900);
        KnockLane x = Check.lane(LANE);
        Check.due("400 bytes", Check.book(x, 0, " ".repeat(400)), KnockLane.NONE);
        Check.badBook(LANE, " ".repeat(401), 1, 400);
        Check.badBook(LANE, "tick 5" + " ".repeat(395), 1, 400);
        Check.badBook(LANE, " ".repeat(394) + "tick 5;", 1, 400);
        Check.due("200 bytes", Check.sentence(x, "stern" + " ".repeat(195)), 1);
        Check.badSentence(LANE, "stern" + " ".repeat(196), 1, 200);
        Check.badSentence(LANE, " ".repeat(201), 1, 200);
        Check.badSentence(LANE, "not" + " ".repeat(198), 1, 200);
    }

    /** Cut off at the most, each of these would be another TOKEN; one that begins at it is not read. */
    private static void beginAheadOfTheMost() {
        Check.says("TOKENS that begin ahead of it are read whole");
        Check.badQuarter(" ".repeat(894) + "lane 55;", 2, 899);
        Check.badQuarter(" ".repeat(894) + "lane 5555;", 1, 899);
        Check.badQuarter(" ".repeat(894) + "lane 12;", 1, 900);
        Check.badQuarter(" ".repeat(895) + "lane 55;", 1, 900);
        Check.badQuarter(" ".repeat(896) + "lanes", 1, 896);
        Check.badQuarter("house h 1;" + " ".repeat(883) + "house hh 1;", 1, 900);
        Check.badQuarter("house hh 1;" + " ".repeat(882) + "house hh 1;", 3, 899);
        Check.badQuarter(" ".repeat(899) + "X", 1, 899);
        Check.badQuarter(" ".repeat(900) + "X", 1, 900);
        Check.badBook(LANE, " ".repeat(394) + "tick 61;", 2, 399);
        Check.badBook(LANE, " ".repeat(395) + "tick 61;", 1, 400);
        Check.badBook(LANE, " ".repeat(399) + "pp quits;", 3, 399);
        Check.badBook(LANE, " ".repeat(394) + "tick 10;", 1, 400);
        Check.badSentence(LANE, " ".repeat(193) + "knows pp", 3, 199);
        Check.badSentence(LANE, " ".repeat(194) + "knows pp", 1, 200);
        Check.badSentence(LANE, " ".repeat(196) + "stern", 1, 200);
        Check.badSentence(LANE, " ".repeat(196) + "sterns", 1, 196);
    }

    private static void aFaultAheadOfTheMost() {
        Check.says("and no FAULT is ahead");
        Check.badQuarter("lane 1;" + " ".repeat(894), 2, 5);
        Check.badQuarter("lane;" + " ".repeat(935), 1, 4);
        Check.badQuarter(SIX + "house g 1;" + " ".repeat(850), 4, 60);
        Check.badBook(LANE, "tick 0;" + " ".repeat(400), 2, 5);
        Check.badBook(LANE, "tick 1;".repeat(41) + " ".repeat(400), 4, 280);
        Check.badSentence(LANE, "knows x" + " ".repeat(200), 3, 6);
    }

    private static void numbersNotAsTold() {
        Check.says("2 a NUMBER that is not as told");
        Check.badQuarter("lane  1;", 2, 6);
        Check.badQuarter("lane 21;", 2, 5);
        Check.badQuarter("ear 10;", 2, 4);
        Check.badQuarter("stay 0;", 2, 5);
        Check.badQuarter("stay 31;", 2, 5);
        Check.badBook(LANE, "tick 0;", 2, 5);
        Check.badBook(LANE, "tick 61;", 2, 5);
    }

    private static void placesNotInTheLane() {
        Check.says("a PLACE that the lane has not (at it)");
        Check.goodQuarter("house h 9;person p tramp 9 up kind;", 2);
        Check.badQuarter("house h 10;", 2, 8);
        Check.badQuarter("person p tramp 10 up kind;", 2, 15);
        Check.goodQuarter("lane 2;house h 1;person p h 1 up kind;", 3);
        Check.badQuarter("lane 2;house h 2;", 2, 15);
        Check.badQuarter("lane 2;house h 1;person p h 2 up kind;", 2, 28);
        Check.goodQuarter("lane 20;house h 19;person p tramp 19 up kind;", 3);
        Check.badQuarter("lane 20;house h 20;", 2, 16);
        Check.badQuarter("lane 20;person p tramp 20 up kind;", 2, 23);
    }

    private static void toldTwice() {
        Check.says("3 a NAME told twice");
        Check.badQuarter("house h 1;house h 2;", 3, 16);
        Check.badQuarter("house h 1;person h tramp 1 up kind;", 3, 17);
        Check.badQuarter(P + "person p tramp 1 up kind;", 3, 32);
        Check.badQuarter(P + "house p 1;", 3, 31);
        Check.badQuarter(SIX.substring(0, 50) + "house a 1;", 3, 56);
        Check.badQuarter(SIX.substring(0, 50) + "house e 1;", 3, 56);
    }

    private static void notTold() {
        Check.says("not told");
        Check.badQuarter("person p h 5 up kind;house h 5;", 3, 9);
        Check.badQuarter("person p p 5 up kind;", 3, 9);
        Check.badQuarter(P + "knows q p;" + Q, 3, 31);
        Check.badQuarter(P + "knows p q;" + Q, 3, 33);
        Check.badQuarter("house h 5;" + "calls p h;" + P, 3, 16);
        Check.badQuarter(P + "calls p h;house h 5;", 3, 33);
        Check.badBook(LANE, "x quits;", 3, 0);
        Check.badBook(LANE, "p knocks x;", 3, 9);
        Check.badBook(LANE, "p calls x;", 3, 8);
        Check.badBook(LANE, "p meets x;", 3, 8);
        Check.badSentence(LANE, "knows x", 3, 6);
        Check.badSentence(LANE, "of x", 3, 3);
    }

    private static void ofAnotherSort() {
        Check.says("or of another sort");
        Check.badQuarter(LANE + "person r p 5 up kind;", 3, 69);
        Check.badQuarter(LANE + "knows h p;", 3, 66);
        Check.badQuarter(LANE + "knows p h;", 3, 68);
        Check.badQuarter(LANE + "calls h h;", 3, 66);
        Check.badQuarter(LANE + "calls p q;", 3, 68);
        Check.badBook(LANE, "h quits;", 3, 0);
        Check.badBook(LANE, "p knocks q;", 3, 9);
        Check.badBook(LANE, "p calls q;", 3, 8);
        Check.badBook(LANE, "p meets h;", 3, 8);
        Check.badSentence(LANE, "knows h", 3, 6);
        Check.badSentence(LANE, "of p", 3, 3);
    }

    private static void pairsOfKnows() {
        Check.says("two of a 'knows' that are alike, of one HOUSE, or know one another so far (at the second)");
        String two = "house h 5;person a h 5 up kind;person b h 5 up kind;";
        Check.badQuarter(P + "knows p p;", 3, 33);
        Check.badQuarter(two + "knows a b;", 3, 60);
        Check.badQuarter(two + "knows b a;", 3, 60);
        Check.badQuarter(two + "knows b b;", 3, 60);
        Check.badQuarter(P + Q + "knows p q;knows p q;", 3, 68);
        Check.badQuarter(P + Q + "knows p q;knows q  p;", 3, 69);
        Check.badQuarter(P + "knows x x;", 3, 31);
    }

    private static void housesToCallAt() {
        Check.says("a HOUSE at which one can not call (at it)");
        Check.badQuarter("house h 5;person a h 5 up kind;calls a h;", 3, 39);
        Check.badQuarter(LANE + "calls p h;calls p  h;", 3, 79);
        Check.badQuarter(LANE + "calls p h;calls q h;calls p h;", 3, 88);
    }

    private static void laneTooLate() {
        Check.says("'lane' behind a 'house', a 'person', or it");
        Check.badQuarter("house h 1;lane 5;", 3, 10);
        Check.badQuarter(P + " lane 5;", 3, 26);
        Check.badQuarter("lane 5;lane 5;", 3, 7);
        Check.badQuarter("lane 5;ear 1;stay 1;lane", 3, 20);
    }

    private static void earAndStayAgain() {
        Check.says("'ear', 'stay' told again (at the WORD)");
        Check.badQuarter("ear 1;ear 2;", 3, 6);
        Check.badQuarter("stay 1;stay 2;", 3, 7);
        Check.badQuarter("ear 1;stay 2;house h 1;ear 10;", 3, 23);
        Check.badQuarter("ear 2;stay 3;house h 1;stay x;", 3, 23);
    }

    private static void meetsHimself() {
        Check.says("the second of a 'meets', if it is the first (at him)");
        Check.badBook(LANE, "p meets p;", 3, 8);
        Check.badBook(LANE, "p meets q;q meets  q;", 3, 19);
    }

    private static void oneMoreOfASort() {
        Check.says("4 one more than there may be of a sort");
        Check.goodQuarter(SIX, 6);
        Check.badQuarter(SIX + " house g 1;", 4, 61);
        Check.badQuarter(SIX + "house 99", 4, 60);
        String eight = Check.tramps("abcdefgh", 1);
        Check.goodQuarter(eight, 8);
        Check.badQuarter(eight + " person i tramp 1 up kind;", 4, eight.length() + 1);
        Check.badQuarter(eight + "person", 4, eight.length());
        StringBuilder calls = new StringBuilder(SIX).append(P).append(Q);
        for (int h = 0; h < 6; h++) {
            calls.append("calls p ").append("abcdef".charAt(h)).append(";calls q ").append("abcdef".charAt(h)).append(";");
        }
        Check.goodQuarter(calls.toString(), 20);
        Check.badQuarter(calls + "calls p a;", 4, calls.length());
        Check.badQuarter(calls + "calls x y;", 4, calls.length());
    }

    private static void theLine41() {
        Check.says("a 41st LINE of a BOOK (at the LINE's first WORD)");
        Check.badBook(LANE, "tick 1;".repeat(40) + " tick 1;", 4, 281);
        Check.badBook(LANE, "tick 1;".repeat(40) + "p", 4, 280);
        Check.badBook(LANE, "tick 1;".repeat(40) + "tick 0;", 4, 280);
        Check.due("40", Check.book(Check.lane(LANE), 0, "tick 1;".repeat(40) + " \n"), KnockLane.NONE);
    }

    private static void theOne21() {
        Check.says("a 21st ONE");
        String twenty = "stern" + " and stern".repeat(19);
        Check.due("20", Check.sentence(Check.lane(LANE), twenty), 20);
        String[] ones = {"stern", "not stern", "(stern)", "place", "knows x", "of"};
        for (String one : ones) {
            Check.badSentence(LANE, twenty + " or " + one, 4, twenty.length() + 4);
        }
    }

    private static void theNinthWithin() {
        Check.says("a ninth within (at its first TOKEN)");
        Check.due("8", Check.sentence(Check.lane(LANE), "not ".repeat(7) + "stern"), 8);
        String[] ones = {"stern", "not stern", "(stern)", "place", "knows x", "of"};
        for (String one : ones) {
            Check.badSentence(LANE, "not ".repeat(8) + one, 4, 32);
            Check.badSentence(LANE, "( ".repeat(8) + one, 4, 16);
        }
    }
}
