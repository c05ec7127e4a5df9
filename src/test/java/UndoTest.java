/** Promises 16, 37 and 38: undo, image, restore. */
public final class UndoTest {
    private static final String TEXT = "lane 8;house h 2;house g 4;person a h 4 up kind;person b tramp 2 stands stern;"
        + "person c g 2 down kind;person d tramp 4 stands stern;knows a d;calls c h;calls d h;ear 3;stay 2;";

    public static void main(String[] args) {
        eachAct();
        eightAreKept();
        refusedBehindEight();
        whatIsNotKept();
        aQuarterEndsIt();
        imagesKeepAll();
        restoreEndsUndo();
        whatStays();
        noSuchPlaces();
        Check.finish("UndoTest");
    }

    private static int act(KnockLane x, int which) {
        switch (which) {
            case 0: return x.knock(0, 1);
            case 1: return x.go(1, 0);
            case 2: return x.quit(0);
            case 3: return x.meets(1, 2);
            case 4: return x.calls(0, 1);
            case 5: return x.ticks(7) - 7;
            case 6: return x.drawn(9, 77) - 9;
            default: return Check.book(x, 1, "tick 3;b calls g;tick 5;") - KnockLane.NONE;
        }
    }

    private static void eachAct() {
        KnockLane x = Check.lane(TEXT);
        String[] before = new String[8];
        for (int i = 0; i < 8; i++) {
            before[i] = Check.all(x);
            Check.due("act " + i, act(x, i), 0);
            Check.due("act " + i + " changed something", Check.all(x).equals(before[i]), false);
        }
        for (int i = 7; i >= 0; i--) {
            Check.due("undo()", x.undo(), i);
            Check.due("as it was ahead of act " + i, Check.all(x), before[i]);
        }
        Check.due("undo()", x.undo(), KnockLane.NONE);
        Check.due("as it was", Check.all(x), before[0]);
    }

    private static void eightAreKept() {
        KnockLane x = new KnockLane();
        for (int i = 0; i < 21; i++) {
            x.ticks(1);
        }
        for (int i = 7; i >= 0; i--) {
            Check.due("undo()", x.undo(), i);
            Check.due("TICK", x.now(0), 13 + i);
        }
        Check.due("a ninth", x.undo(), KnockLane.NONE);
        Check.due("TICK", x.now(0), 13);
        x.ticks(5);
        Check.due("undo()", x.undo(), 0);
        for (int i = 0; i < 5; i++) {
            x.ticks(10);
        }
        x.undo();
        x.undo();
        x.ticks(3);
        Check.due("undo() of the latest", x.undo(), 3);
        Check.due("TICK", x.now(0), 43);
    }

    /** An act that can't be done leaves all eight as they are. */
    private static void refusedBehindEight() {
        KnockLane x = Check.lane(TEXT);
        String before = Check.all(x);
        for (int i = 0; i < 8; i++) {
            x.ticks(1);
        }
        x.knock(0, 0);
        x.go(1, 2);
        x.quit(1);
        x.meets(0, 3);
        x.calls(0, 0);
        Check.book(x, 1, "b quits;");
        for (int i = 7; i >= 0; i--) {
            Check.due("undo()", x.undo(), i);
            Check.due("TICK", x.now(0), i);
        }
        Check.due("as it was", Check.all(x), before);
    }

    private static void whatIsNotKept() {
        KnockLane x = Check.lane(TEXT);
        x.go(1, 0);
        x.go(1, 0);
        x.knock(0, 0);
        x.quit(1);
        x.meets(0, 3);
        x.calls(2, 0);
        x.ticks(0);
        x.drawn(0, 1);
        Check.due("WRONG at once", Check.book(x, 1, "b goes up;tick 1;"), 0);
        Check.due("judged alone", Check.book(x, 0, "tick 1;"), KnockLane.NONE);
        Check.due("empty", Check.book(x, 1, ""), KnockLane.NONE);
        Check.due("a FAULT", Check.book(x, 1, "tick 1;tick"), -2 - 11);
        x.image(0);
        x.most();
        x.opens(0);
        x.known();
        x.odds(0, 3, 3);
        Check.sentence(x, "stern");
        Check.due("undo() of go()", x.undo(), 0);
        Check.due("stands", Check.person(x, 1, 2), 2);
        Check.due("the SENTENCE stays", x.said(-1), 2);
        Check.due("WRONG behind a LINE", Check.book(x, 1, "tick 1;d goes stands;"), 1);
        Check.due("undo() of that LINE", x.undo(), 0);
        Check.due("TICK", x.now(0), 0);
    }

    private static void aQuarterEndsIt() {
        KnockLane x = Check.lane(TEXT);
        x.ticks(3);
        Check.due("a FAULT leaves it", Check.quarter(x, "lane"), -5);
        Check.due("a new QUARTER", x.quarter(), 0);
        Check.due("undo()", x.undo(), KnockLane.NONE);
    }

    private static void imagesKeepAll() {
        KnockLane x = Check.lane(TEXT);
        Check.sentence(x, "stern or place > 3");
        x.ticks(5);
        String first = Check.all(x);
        Check.due("image(0)", x.image(0), true);
        x.drawn(30, 4);
        Check.sentence(x, "not stern");
        String second = Check.all(x);
        Check.due("image(1)", x.image(1), true);
        Check.quarter(x, "lane 3;house x 1;person y x 1 up kind;ear 1;stay 9;");
        String third = Check.all(x);
        Check.due("restore(0)", x.restore(0), true);
        Check.due("the first", Check.all(x), first);
        Check.due("its names", Check.tag(x, 0).charAt(0), 'a');
        x.ticks(20);
        Check.due("restore(1)", x.restore(1), true);
        Check.due("the second", Check.all(x), second);
        Check.due("restore(0) again", x.restore(0), true);
        Check.due("the first again", Check.all(x), first);
        Check.due("a name told by the other one", Check.book(x, 0, "y goes down;"), -2);
        Check.quarter(x, "lane 3;house x 1;person y x 1 up kind;ear 1;stay 9;");
        Check.due("the third", Check.all(x), third);
        x.image(0);
        x.ticks(1);
        Check.due("restore(0)", x.restore(0), true);
        Check.due("image(0) was kept anew", Check.all(x), third);
        Check.due("no SENTENCE was kept", x.said(-1), KnockLane.NONE);
    }

    private static void restoreEndsUndo() {
        KnockLane x = Check.lane(TEXT);
        x.ticks(1);
        x.image(1);
        x.ticks(1);
        Check.due("undo() behind an image()", x.undo(), 1);
        Check.due("restore(0)", x.restore(0), false);
        Check.due("a restore() that is false leaves it", x.undo(), 0);
        x.ticks(1);
        Check.due("restore(1)", x.restore(1), true);
        Check.due("undo() behind it", x.undo(), KnockLane.NONE);
        Check.due("TICK", x.now(0), 1);
    }

    private static void whatStays() {
        KnockLane x = Check.lane(TEXT);
        x.image(0);
        x.knock(0, 1);
        x.most();
        x.chain(0, 3);
        Check.who(x, 0, 0);
        x.tag(0);
        Check.book(x, 1, "tick 4;");
        Check.sentence(x, "7");
        int those = x.those();
        int ask = x.ask();
        Check.feed(x, "abc");
        x.restore(0);
        Check.due("the tape", x.count(5), 3);
        Check.due("those()", x.those(), those);
        Check.due("ask()", x.ask(), ask);
        Check.due("chainAt(1)", x.chainAt(1), 3);
        Check.due("byteAt(2)", x.byteAt(2), 'k');
        Check.due("told(2)", x.told(2), 4);
        Check.due("fault()", x.fault(), 1);
    }

    private static void noSuchPlaces() {
        KnockLane x = new KnockLane();
        int[] none = {-1, 2, Integer.MAX_VALUE, Integer.MIN_VALUE};
        for (int k : none) {
            Check.due("image(" + k + ")", x.image(k), false);
            Check.due("restore(" + k + ")", x.restore(k), false);
        }
        Check.due("restore(0)", x.restore(0), false);
        Check.due("image(0)", x.image(0), true);
        Check.due("restore(1)", x.restore(1), false);
        Check.due("restore(0)", x.restore(0), true);
    }
}
