/** Promises 33 and 34: book and told. */
public final class BookTest {
    private static final String TEXT = "house h 5;house g 6;person a h 5 up kind;person b tramp 5 stands stern;"
        + "person c g 6 down kind;knows a c;person d tramp 5 stands kind;";

    public static void main(String[] args) {
        goodBooks();
        wrongLines();
        judgedOrLived();
        faults();
        fortyLines();
        longBooks();
        otherLives();
        toldOfTheLatest();
        ticksLeft();
        Check.finish("BookTest");
    }

    private static void told(KnockLane x, int why, int lines, int tick, int inside) {
        Check.due("told(0)", x.told(0), why);
        Check.due("told(1)", x.told(1), lines);
        Check.due("told(2)", x.told(2), tick);
        Check.due("told(3)", x.told(3), inside);
        Check.due("told(4)", x.told(4), KnockLane.NONE);
        Check.due("told(-1)", x.told(-1), KnockLane.NONE);
    }

    private static void goodBooks() {
        KnockLane x = Check.lane(TEXT);
        Check.due("empty", Check.book(x, 1, ""), KnockLane.NONE);
        told(x, 0, 0, 0, 0);
        Check.due("book(1)", Check.book(x, 1, "b knocks h;\ntick 1 ;a goes down;b meets c;b calls g;c goes stands;"), KnockLane.NONE);
        told(x, 0, 6, 1, 2);
        Check.due("fault()", x.fault(), 0);
        Check.due("TICK", x.now(0), 1);
        Check.due("a goes down", Check.person(x, 0, 2), 1);
        Check.due("b KNOWS c and d", Check.person(x, 1, 5), 12);
        Check.due("b is to CALL", Check.person(x, 1, 6), 2);
        Check.due("d let him in", Check.person(x, 3, 8), 1);
        Check.due("undo()", x.undo(), 0);
        Check.due("TICK", x.now(0), 0);
        Check.due("quits", Check.book(x, 1, "b knocks h;b quits;b knocks h;"), KnockLane.NONE);
        Check.due("KNOCKING", x.now(2), 2);
    }

    private static void wrong(String text, int line, int why) {
        for (int lives = 0; lives < 2; lives++) {
            KnockLane x = Check.lane(TEXT);
            Check.due("book(" + lives + ") of " + text, Check.book(x, lives, text), line);
            Check.due("told(0) of " + text, x.told(0), why);
            Check.due("told(1) of " + text, x.told(1), line);
            Check.due("fault() of " + text, x.fault(), 0);
        }
    }

    private static void wrongLines() {
        wrong("b knocks h;b knocks h;", 1, 1);
        wrong("b knocks g;", 0, 2);
        wrong("a knocks h;", 0, 3);
        wrong("b knocks h;b goes up;", 1, 11);
        wrong("b goes stands;tick 1;", 0, 12);
        wrong("b quits;", 0, 21);
        wrong("b meets a;b meets a;", 1, 31);
        wrong("tick 1;a meets c;", 1, 31);
        wrong("a calls h;", 0, 41);
        wrong("a calls g;b calls g;a calls g;tick 1;", 2, 42);
        KnockLane x = Check.lane("house h 0;house g 1;house f 2;person a tramp 9 stands kind;person b tramp 9 stands kind;"
            + "person c tramp 9 stands kind;person d tramp 9 stands kind;person e tramp 9 stands kind;");
        Check.due("13 CALLS", Check.book(x, 0, "a calls h;a calls g;a calls f;b calls h;b calls g;b calls f;c calls h;c calls g;"
            + "c calls f;d calls h;d calls g;d calls f;e calls h;"), 12);
        told(x, 43, 12, 0, 0);
    }

    private static void judgedOrLived() {
        KnockLane x = Check.lane(TEXT);
        String before = Check.all(x);
        String text = "b knocks h;tick 2;b meets c;b knocks g;tick 9;";
        Check.due("judged", Check.book(x, 0, text), 3);
        told(x, 1, 3, 2, 2);
        Check.due("all stays as it is", Check.all(x), before);
        Check.due("undo()", x.undo(), KnockLane.NONE);
        Check.due("lived", Check.book(x, 1, text), 3);
        told(x, 1, 3, 2, 2);
        Check.due("TICK", x.now(0), 2);
        Check.due("b is INSIDE", Check.person(x, 1, 0), 2);
        Check.due("b KNOWS c and d", Check.person(x, 1, 5), 12);
        Check.due("undo()", x.undo(), 0);
        Check.due("undone", Check.all(x), before);
        Check.due("the tape is empty", x.count(5), 0);
    }

    private static void bad(String text, int kind, int place) {
        KnockLane x = Check.lane(TEXT);
        String before = Check.all(x);
        Check.due("book(1) of " + text, Check.book(x, 1, text), -2 - place);
        Check.due("fault() of " + text, x.fault(), kind);
        Check.due("nothing changed by " + text, Check.all(x), before);
        Check.due("tape behind " + text, x.count(5), 0);
        Check.due("told(0) behind " + text, x.told(0), KnockLane.NONE);
        Check.due("undo() behind " + text, x.undo(), KnockLane.NONE);
    }

    private static void faults() {
        bad(";", 1, 0);
        bad("1;", 1, 0);
        bad("knocks;", 1, 0);
        bad("lane 5;", 1, 0);
        bad("a", 1, 1);
        bad("a ;", 1, 2);
        bad("a b;", 1, 2);
        bad("a knows b;", 1, 2);
        bad("a knocks;", 1, 8);
        bad("a knocks 1;", 1, 9);
        bad("a knocks tramp;", 1, 9);
        bad("a knocks h", 1, 10);
        bad("a goes left;", 1, 7);
        bad("a goes kind;", 1, 7);
        bad("a quits h;", 1, 8);
        bad("a meets 5;", 1, 8);
        bad("tick;", 1, 4);
        bad("tick a;", 1, 5);
        bad("tick 5 5;", 1, 7);
        bad("tick 5;;", 1, 7);
        bad("tick 0;", 2, 5);
        bad("tick 61;", 2, 5);
        bad("x quits;", 3, 0);
        bad("h quits;", 3, 0);
        bad("tick 5;x", 3, 7);
        bad("a knocks x;", 3, 9);
        bad("a knocks b;", 3, 9);
        bad("a calls b;", 3, 8);
        bad("a meets h;", 3, 8);
        bad("a meets x;", 3, 8);
        bad("a meets a;", 3, 8);
        bad("a quits;tick 1", 1, 14);
    }

    private static String repeat(String text, int n) {
        return text.repeat(n);
    }

    private static void fortyLines() {
        KnockLane x = Check.lane(TEXT);
        Check.due("40 LINES", Check.book(x, 0, repeat("tick 1;", 40)), KnockLane.NONE);
        told(x, 0, 40, 40, 0);
        bad(repeat("tick 1;", 41), 4, 280);
        bad(repeat("tick 1;", 40) + "a", 4, 280);
        bad(repeat("tick 1;", 40) + "a goes x;", 4, 280);
        bad(repeat("tick 1;", 40) + "tick 0;", 4, 280);
        bad(repeat("tick 1;", 40) + " x goes up;", 3, 281);
        bad(repeat("tick 1;", 40) + "h", 3, 280);
        bad(repeat("tick 1;", 40) + ";", 1, 280);
        bad(repeat("tick 1;", 40) + "lane", 1, 280);
        bad(repeat("tick 1;", 40) + "9", 1, 280);
    }

    private static void longBooks() {
        KnockLane x = Check.lane(TEXT);
        Check.due("400 bytes", Check.book(x, 0, "tick 1;" + repeat(" ", 393)), KnockLane.NONE);
        told(x, 0, 1, 1, 0);
        bad("tick 1;" + repeat(" ", 394), 1, 400);
        bad(repeat(" ", 394) + "tick 1;", 1, 400);
        bad(repeat(" ", 394) + "tick 99;", 2, 399);
        bad(repeat(" ", 399) + "tick 1;", 1, 400);
        bad(repeat(" ", 399) + "x1", 1, 399);
        bad(repeat(" ", 400) + "x1", 1, 400);
        bad("tick 1" + repeat(" ", 500), 1, 400);
        bad("tick 0" + repeat(" ", 500), 2, 5);
    }

    private static void otherLives() {
        KnockLane x = Check.lane(TEXT);
        Check.feed(x, "tick 5;");
        int[] none = {2, -1, Integer.MAX_VALUE, Integer.MIN_VALUE};
        for (int lives : none) {
            Check.due("book(" + lives + ")", x.book(lives), -1000);
            Check.due("the tape stays", x.count(5), 7);
            Check.due("told(0)", x.told(0), KnockLane.NONE);
        }
        Check.due("book(1)", x.book(1), KnockLane.NONE);
        told(x, 0, 1, 5, 0);
        x.book(7);
        told(x, 0, 1, 5, 0);
    }

    private static void toldOfTheLatest() {
        KnockLane x = Check.lane(TEXT);
        for (int w = -1; w < 5; w++) {
            Check.due("told(" + w + ") ahead of any", x.told(w), KnockLane.NONE);
        }
        Check.due("WRONG", Check.book(x, 1, "tick 5;b quits;"), 1);
        told(x, 21, 1, 5, 0);
        x.ticks(3);
        told(x, 21, 1, 5, 0);
        Check.due("a FAULT", Check.book(x, 1, "tick 5;tick 5;tick"), -2 - 18);
        told(x, 21, 1, 5, 0);
        x.quarter();
        told(x, 21, 1, 5, 0);
        Check.due("empty", Check.book(x, 0, ""), KnockLane.NONE);
        told(x, 0, 0, 0, 0);
    }

    private static void ticksLeft() {
        KnockLane x = Check.lane(TEXT);
        Check.due("960 TICKS", Check.book(x, 1, repeat("tick 60;", 16)), KnockLane.NONE);
        told(x, 0, 16, 960, 0);
        Check.due("41 are not left", Check.book(x, 0, "tick 41;"), 0);
        told(x, 51, 0, 960, 0);
        Check.due("40 are", Check.book(x, 0, "tick 40;"), KnockLane.NONE);
        told(x, 0, 1, 1000, 0);
        Check.due("none is left then", Check.book(x, 1, "tick 39;tick 1;b goes up;tick 1;b goes down;"), 3);
        told(x, 51, 3, 1000, 0);
        Check.due("TICK", x.now(0), 1000);
        Check.due("b goes up", Check.person(x, 1, 2), 0);
    }
}
