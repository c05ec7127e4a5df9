/** Promises 17 to 19: answer, most, those. */
public final class AnswerTest {
    public static void main(String[] args) {
        answers();
        mostOfTwo();
        leastAsBits();
        chainOfThree();
        Check.finish("AnswerTest");
    }

    private static void answers() {
        KnockLane x = Check.lane("house h 5;person r h 5 stands kind;person a tramp 5 stands kind;person b tramp 5 stands kind;"
            + "person c tramp 7 stands kind;person d tramp 4 stands kind;person e tramp 6 stands kind;knows b r;");
        int[] none = {-1, 6, 1, Integer.MAX_VALUE};
        for (int p : none) {
            Check.due("answer(" + p + ")", x.answer(p), KnockLane.NONE);
        }
        Check.due("knock", x.knock(1, 0), 0);
        Check.due("the nearest, the first", x.answer(1), 4);
        x.meets(4, 0);
        Check.due("no STRANGER any more", x.answer(1), 5);
        x.go(5, 0);
        x.meets(5, 0);
        Check.due("farther", x.answer(1), 3);
        x.meets(3, 0);
        Check.due("nobody", x.answer(1), KnockLane.NONE);
        x = Check.lane("house h 5;person a tramp 5 stands kind;person b tramp 5 stands kind;person c tramp 5 stands kind;");
        x.knock(0, 0);
        x.knock(1, 0);
        Check.due("as if he was the first", x.answer(1), 2);
        Check.due("and so the other", x.answer(0), 2);
        Check.due("by the first PERSON, too", x.quit(0) + x.answer(1), 0);
        x.knock(0, 0);
        x.ticks(1);
        Check.due("who is INSIDE", x.answer(0), KnockLane.NONE);
        Check.due("who waited", x.answer(1), 2);
    }

    private static void mostOf(KnockLane x, int most, int those) {
        Check.due("most()", x.most(), most);
        Check.due("those()", x.those(), those);
    }

    /** d can answer at both HOUSES, e at h alone: who takes d for h ends with one. */
    private static void mostOfTwo() {
        KnockLane x = Check.lane("house h 5;house g 8;person a tramp 5 stands kind;person b tramp 8 stands kind;"
            + "person d tramp 7 stands kind;person e tramp 3 stands kind;");
        Check.due("those() ahead of any", x.those(), KnockLane.NONE);
        mostOf(x, 0, 0);
        x.knock(0, 0);
        mostOf(x, 1, 1);
        x.knock(1, 1);
        Check.due("those() by the latest most()", x.those(), 1);
        mostOf(x, 2, 3);
        x.ticks(1);
        Check.due("those() by the latest most()", x.those(), 3);
        // In the TICK a's turn was first: d, the first of like ones, let him in, and b waits for d.
        mostOf(x, 1, 2);
    }

    private static void leastAsBits() {
        KnockLane x = Check.lane("house h 5;house g 8;person a tramp 8 stands kind;person b tramp 8 stands kind;"
            + "person c tramp 5 stands kind;person d tramp 7 stands kind;person e tramp 3 stands kind;");
        x.knock(0, 1);
        x.knock(1, 1);
        x.knock(2, 0);
        mostOf(x, 2, 5);
        x.quit(0);
        mostOf(x, 2, 6);
        x = Check.lane("house h 5;person a tramp 5 stands kind;person b tramp 5 stands kind;person c tramp 5 stands kind;"
            + "person d tramp 5 stands kind;");
        x.knock(3, 0);
        x.knock(2, 0);
        x.knock(1, 0);
        mostOf(x, 1, 2);
        x = Check.lane("house h 5;person r h 5 stands kind;person a tramp 5 stands kind;person b tramp 5 stands kind;"
            + "knows b r;");
        x.knock(1, 0);
        mostOf(x, 0, 0);
    }

    /** Each of three needs another one: e at 1 for c alone, d at 3 for b, f at 5 for a. */
    private static void chainOfThree() {
        KnockLane x = Check.lane("ear 1;house h 0;house g 2;house k 4;person a tramp 4 stands kind;person b tramp 2 stands kind;"
            + "person c tramp 0 stands kind;person d tramp 3 stands kind;person e tramp 1 stands kind;"
            + "person f tramp 5 stands kind;");
        x.knock(0, 2);
        x.knock(1, 1);
        x.knock(2, 0);
        mostOf(x, 3, 7);
        x.meets(5, 0);
        x.undo();
        Check.due("c quits, and the others are let in", Check.book(x, 1, "c quits;tick 1;"), KnockLane.NONE);
        Check.due("INSIDE", x.now(3), 3);
    }
}
