/** Terms and Promises 33, 34: the BOOK, sentence by sentence. */
public final class EdgeBookTest {
    /** a lives in h; b, a tramp, KNOWS c; all are at 5. Nobody but d, who is far away, is no STRANGER of g. */
    private static final String LANE = "house h 5;house g 6;person a h 5 stands kind;person b tramp 5 stands stern;"
        + "person c tramp 5 stands kind;person d g 0 stands kind;knows b c;ear 1;stay 4;";

    public static void main(String[] args) {
        atMost400Bytes();
        atMost40Lines();
        eachLine();
        meetsUnlike();
        tick1To60();
        judgedAndStaying();
        livedAsFarAsNotWrong();
        theLineThatIsWrong();
        none();
        lessThePlaceOfAFault();
        anotherLives();
        whyKnocking();
        whyGoing();
        whyQuitting();
        whyMeeting();
        whyCalling();
        fewerTicksAreLeft();
        linesThatAreNot();
        theTickThen();
        whoIsInsideThen();
        latestWithoutFault();
        anotherWhat();
        Check.finish("EdgeBookTest");
    }

    private static void told(KnockLane x, int why, int lines, int tick, int inside) {
        int[] due = {why, lines, tick, inside};
        for (int w = 0; w < 4; w++) {
            Check.due("told(" + w + ")", x.told(w), due[w]);
        }
    }

    /** Judged and lived alike: the LINE, and why. */
    private static void wrong(String text, int line, int why) {
        for (int lives = 0; lives < 2; lives++) {
            KnockLane x = Check.lane(LANE);
            Check.due("book(" + lives + ") of " + text, Check.book(x, lives, text), line);
            Check.due("told(0) of " + text, x.told(0), why);
            Check.due("told(1) of " + text, x.told(1), line);
        }
    }

    private static void right(String text, int lines) {
        for (int lives = 0; lives < 2; lives++) {
            KnockLane x = Check.lane(LANE);
            Check.none("book(" + lives + ") of " + text, Check.book(x, lives, text));
            Check.due("told(0) of " + text, x.told(0), 0);
            Check.due("told(1) of " + text, x.told(1), lines);
        }
    }

    private static void atMost400Bytes() {
        Check.says("A BOOK is a text of at most 400 bytes");
        right("tick 1;" + " ".repeat(393), 1);
        right(" ".repeat(393) + "tick 1;", 1);
        Check.badBook(LANE, "tick 1;" + " ".repeat(394), 1, 400);
        Check.badBook(LANE, " ".repeat(394) + "tick 1;", 1, 400);
        String lines = "b goes    up;b goes stands;".repeat(14) + "b goes down;";
        Check.due("it has 390", lines.length(), 390);
        right("b meets\na;" + lines, 30);
        Check.badBook(LANE, "b  meets\na;" + lines, 1, 400);
    }

    private static void atMost40Lines() {
        Check.says("{ LINE ; }, 40 at most");
        right("", 0);
        right("tick 2;".repeat(39), 39);
        right("tick 2;".repeat(40), 40);
        Check.badBook(LANE, "tick 2;".repeat(41), 4, 280);
        right("b knocks h;b quits;".repeat(20), 40);
        Check.badBook(LANE, "b knocks h;b quits;".repeat(20) + "b", 4, 380);
    }

    private static void eachLine() {
        Check.says("PERSON ( 'knocks' HOUSE | 'goes' WAY | 'quits' | 'meets' PERSON (unlike) | 'calls' HOUSE ) | 'tick' N");
        right("b knocks h;", 1);
        right("b goes up;", 1);
        right("b goes down;", 1);
        right("b goes up;b goes stands;", 2);
        right("b knocks h;b quits;", 2);
        right("b meets a;", 1);
        right("b calls g;", 1);
        right("tick 1;", 1);
        String[] rests = {"", "b", "h", "5", "lane", "knows c", "tick 1", "stern", "up"};
        for (String rest : rests) {
            Check.badBook(LANE, "b " + rest + ";", 1, 2);
        }
        Check.badBook(LANE, "b knocks up;", 1, 9);
        Check.badBook(LANE, "b goes h;", 1, 7);
        Check.badBook(LANE, "b quits h;", 1, 8);
        Check.badBook(LANE, "b meets tick;", 1, 8);
        Check.badBook(LANE, "b calls 1;", 1, 8);
        Check.badBook(LANE, "tick b;", 1, 5);
        Check.badBook(LANE, "tick;", 1, 4);
    }

    private static void meetsUnlike() {
        Check.says("'meets' PERSON (unlike)");
        Check.badBook(LANE, "b meets b;", 3, 8);
        right("b meets a;b meets d;", 2);
    }

    private static void tick1To60() {
        Check.says("'tick' N (1 to 60)");
        Check.badBook(LANE, "tick 0;", 2, 5);
        right("tick 1;", 1);
        right("tick 60;", 1);
        Check.badBook(LANE, "tick 61;", 2, 5);
        KnockLane x = Check.lane(LANE);
        Check.book(x, 1, "tick 60;tick 1;");
        Check.due("TICK", x.now(0), 61);
    }

    private static void judgedAndStaying() {
        Check.says("it is judged, all staying as it is (lives 0)");
        KnockLane x = Check.lane(LANE);
        Check.sentence(x, "stern");
        String before = Check.all(x);
        Check.none("book(0)", Check.book(x, 0, "b calls g;b meets a;a goes up;b knocks h;tick 20;"));
        Check.due("all stays", Check.all(x), before);
        Check.none("nothing can be undone", x.undo());
        Check.due("the tape is empty", x.count(5), 0);
        Check.due("told(2)", x.told(2), 20);
    }

    private static void livedAsFarAsNotWrong() {
        Check.says("or lived as far as it is not WRONG (1)");
        KnockLane x = Check.lane(LANE);
        Check.due("book(1)", Check.book(x, 1, "b calls g;a goes up;b quits;a goes down;tick 5;"), 2);
        Check.due("b is to CALL", Check.person(x, 1, 6), 2);
        Check.due("a goes up", Check.person(x, 0, 2), 0);
        Check.due("no TICK", x.now(0), 0);
        Check.due("undo() of both LINES", x.undo(), 0);
        Check.due("CALLS", x.now(5), 0);
        Check.due("a stands", Check.person(x, 0, 2), 2);
        String before = Check.all(x);
        Check.due("WRONG at once", Check.book(x, 1, "b quits;tick 5;"), 0);
        Check.due("nothing is lived", Check.all(x), before);
        Check.none("nothing can be undone", x.undo());
    }

    private static void theLineThatIsWrong() {
        Check.says("the LINE that is WRONG");
        wrong("b quits;", 0, 21);
        wrong("tick 1;b quits;", 1, 21);
        wrong("tick 1;".repeat(39) + "b quits;", 39, 21);
        wrong("b quits;a quits;", 0, 21);
    }

    private static void none() {
        Check.says("NONE: none");
        right("", 0);
        right(" \n", 0);
        right("b goes up;", 1);
        KnockLane x = new KnockLane();
        Check.none("without PERSONS", Check.book(x, 1, "tick 3;"));
        Check.due("TICK", x.now(0), 3);
    }

    private static void lessThePlaceOfAFault() {
        Check.says("-2 less the place of a FAULT");
        KnockLane x = Check.lane(LANE);
        Check.due("at 0", Check.book(x, 1, ";"), -2);
        Check.due("at 1", Check.book(x, 1, " x quits;"), -3);
        Check.due("at 400", Check.book(x, 1, " ".repeat(401)), -402);
        String before = Check.all(x);
        Check.due("behind LINES that could be lived", Check.book(x, 1, "tick 5;b goes up;tick 61;"), -2 - 22);
        Check.due("nothing is lived", Check.all(x), before);
        Check.none("nothing can be undone", x.undo());
        Check.due("the tape is empty", x.count(5), 0);
    }

    private static void anotherLives() {
        Check.says("-1000: another lives (the tape stays)");
        int[] lives = {-1, 2, 3, Integer.MAX_VALUE, Integer.MIN_VALUE};
        for (int l : lives) {
            KnockLane x = Check.lane(LANE);
            Check.feed(x, "tick 9;");
            Check.due("book(" + l + ")", x.book(l), -1000);
            Check.due("the tape", x.count(5), 7);
            Check.none("told(0)", x.told(0));
            Check.due("TICK", x.now(0), 0);
            Check.none("and is the BOOK yet", x.book(1));
            Check.due("TICK", x.now(0), 9);
        }
    }

    private static void whyKnocking() {
        Check.says("1 to 3 knocking");
        wrong("b knocks h;b knocks h;", 1, 1);
        wrong("b knocks h;b knocks g;", 1, 1);
        wrong("b knocks g;", 0, 2);
        wrong("d knocks g;", 0, 2);
        wrong("a knocks h;", 0, 3);
    }

    private static void whyGoing() {
        Check.says("11, 12 going");
        wrong("b knocks h;b goes up;", 1, 11);
        wrong("b knocks h;b goes stands;", 1, 11);
        wrong("b goes stands;", 0, 12);
    }

    private static void whyQuitting() {
        Check.says("21 quitting");
        wrong("b quits;", 0, 21);
        wrong("b knocks h;b quits;b quits;", 2, 21);
    }

    private static void whyMeeting() {
        Check.says("31 meeting");
        wrong("b meets c;", 0, 31);
        wrong("c meets b;", 0, 31);
        wrong("a meets b;b meets a;", 1, 31);
    }

    private static void whyCalling() {
        Check.says("41 to 43 calling");
        wrong("a calls h;", 0, 41);
        wrong("b calls h;b calls h;", 1, 42);
        KnockLane x = Check.lane("house e 0;house f 0;house g 0;" + Check.tramps("abcd", 9) + "person k e 9 stands kind;");
        StringBuilder text = new StringBuilder();
        for (char p : "abcd".toCharArray()) {
            text.append(p).append(" calls e;").append(p).append(" calls f;").append(p).append(" calls g;");
        }
        Check.none("12 CALLS", Check.book(x, 0, text.toString()));
        Check.due("13", Check.book(x, 0, text + "k calls f;"), 12);
        Check.due("told(0)", x.told(0), 43);
        Check.due("13, and his own", Check.book(x, 0, text + "k calls e;"), 12);
        Check.due("told(0)", x.told(0), 41);
        Check.due("13, and told", Check.book(x, 0, text + "a calls e;"), 12);
        Check.due("told(0)", x.told(0), 42);
    }

    private static void fewerTicksAreLeft() {
        Check.says("51: fewer TICKS are left");
        KnockLane x = Check.lane(LANE);
        Check.go(x, 950);
        Check.none("50 are left", Check.book(x, 0, "tick 50;"));
        Check.due("not 51", Check.book(x, 1, "tick 51;"), 0);
        told(x, 51, 0, 950, 0);
        Check.due("no TICK of them goes by", x.now(0), 950);
        Check.due("49 and 2", Check.book(x, 0, "tick 49;tick 2;"), 1);
        told(x, 51, 1, 999, 0);
        Check.none("49 and 1", Check.book(x, 1, "tick 49;tick 1;"));
        Check.due("TICK", x.now(0), 1000);
        Check.due("none is left", Check.book(x, 1, "b goes up;tick 1;"), 1);
        told(x, 51, 1, 1000, 0);
        Check.due("b goes up", Check.person(x, 1, 2), 0);
    }

    private static void linesThatAreNot() {
        Check.says("1 LINES that are not");
        KnockLane x = Check.lane(LANE);
        Check.book(x, 0, "");
        told(x, 0, 0, 0, 0);
        Check.book(x, 0, "tick 1;".repeat(40));
        told(x, 0, 40, 40, 0);
        Check.book(x, 0, "tick 1;".repeat(39) + "b quits;");
        told(x, 21, 39, 39, 0);
        Check.book(x, 0, "b quits;tick 1;");
        told(x, 21, 0, 0, 0);
        Check.none("an empty one behind a WRONG one", Check.book(x, 0, ""));
        told(x, 0, 0, 0, 0);
    }

    private static void theTickThen() {
        Check.says("2 the TICK then");
        KnockLane x = Check.lane(LANE);
        x.ticks(7);
        Check.book(x, 0, "tick 5;");
        Check.due("told(2)", x.told(2), 12);
        Check.book(x, 0, "");
        Check.due("told(2)", x.told(2), 7);
        Check.book(x, 1, "tick 5;b quits;tick 5;");
        Check.due("told(2)", x.told(2), 12);
        x.ticks(3);
        Check.due("it stays", x.told(2), 12);
    }

    /** c lets b in in the first TICK; he stays 4. */
    private static void whoIsInsideThen() {
        Check.says("3 who is INSIDE then, as bits.");
        KnockLane x = Check.lane(LANE);
        Check.book(x, 0, "b knocks h;");
        Check.due("told(3)", x.told(3), 0);
        Check.book(x, 0, "b knocks h;tick 1;");
        Check.due("told(3)", x.told(3), 2);
        Check.book(x, 0, "b knocks h;tick 4;a quits;");
        Check.due("told(3)", x.told(3), 2);
        Check.book(x, 0, "b knocks h;tick 5;");
        Check.due("told(3)", x.told(3), 0);
        Check.book(x, 1, "b knocks h;tick 1;");
        x.ticks(10);
        Check.due("it stays", x.told(3), 2);
    }

    private static void latestWithoutFault() {
        Check.says("Of the latest book() that had no FAULT (and was not -1000)");
        KnockLane x = Check.lane(LANE);
        Check.book(x, 0, "tick 5;b quits;");
        told(x, 21, 1, 5, 0);
        Check.book(x, 0, "tick 6;tick 7;;");
        told(x, 21, 1, 5, 0);
        x.book(2);
        told(x, 21, 1, 5, 0);
        Check.sentence(x, "stern");
        Check.quarter(x, "lane 5;");
        told(x, 21, 1, 5, 0);
        Check.book(x, 0, "tick 6;");
        told(x, 0, 1, 6, 0);
    }

    private static void anotherWhat() {
        Check.says("NONE: another what, or ahead of any.");
        KnockLane x = Check.lane(LANE);
        for (int w = -1; w < 5; w++) {
            Check.none("ahead of any: told(" + w + ")", x.told(w));
        }
        Check.book(x, 0, "x");
        x.book(9);
        Check.none("behind a FAULT, ahead of any", x.told(1));
        Check.book(x, 0, "");
        int[] what = {-1, 4, 5, Integer.MAX_VALUE, Integer.MIN_VALUE};
        for (int w : what) {
            Check.none("told(" + w + ")", x.told(w));
        }
    }
}
