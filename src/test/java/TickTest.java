/** Promise 15: ticks, round by round. */
public final class TickTest {
    public static void main(String[] args) {
        howMany();
        theLastTick();
        walking();
        calling();
        oneCallOfSeveral();
        answering();
        nearestOrFirst();
        onceInATick();
        eachAnswersOnce();
        judging();
        shutOutAnswers();
        whoLivesThereIsKnown();
        staying();
        outAndOn();
        waiting();
        Check.finish("TickTest");
    }

    private static void person(KnockLane x, int p, int what, int due) {
        Check.due("person(" + p + ", " + what + ")", Check.person(x, p, what), due);
    }

    /** how he is, and his PLACE. */
    private static void is(KnockLane x, int p, int how, int place) {
        person(x, p, 0, how);
        person(x, p, 1, place);
    }

    private static void howMany() {
        KnockLane x = new KnockLane();
        int[] none = {0, -1, 61, Integer.MAX_VALUE, Integer.MIN_VALUE};
        for (int n : none) {
            Check.due("ticks(" + n + ")", x.ticks(n), KnockLane.NONE);
        }
        Check.due("ticks(1)", x.ticks(1), 1);
        Check.due("ticks(60)", x.ticks(60), 60);
        Check.due("TICK", x.now(0), 61);
    }

    private static void theLastTick() {
        KnockLane x = Check.lane("lane 2;house h 0;person a tramp 0 up kind;");
        for (int i = 0; i < 16; i++) {
            Check.due("ticks(60)", x.ticks(60), 60);
        }
        Check.due("ticks(39)", x.ticks(39), 39);
        Check.due("ticks(2)", x.ticks(2), 1);
        Check.due("TICK", x.now(0), 1000);
        String before = Check.all(x);
        Check.due("ticks(1)", x.ticks(1), 0);
        Check.due("ticks(60)", x.ticks(60), 0);
        Check.due("drawn(60, 5)", x.drawn(60, 5), 0);
        Check.due("nothing goes on", Check.all(x), before);
        Check.due("an act can be done yet", x.go(0, 2), 0);
        Check.due("undo() of it", x.undo(), 7);
        Check.due("undo() of ticks(2)", x.undo(), 6);
        Check.due("TICK", x.now(0), 999);
    }

    private static void walking() {
        KnockLane x = Check.lane("lane 3;person a tramp 0 up kind;person b tramp 0 down kind;person c tramp 1 stands kind;");
        int[][] due = {{1, 0, 0, 0, 1, 2}, {2, 0, 1, 0, 1, 2}, {2, 1, 2, 0, 1, 2}, {1, 1, 2, 1, 1, 2}, {0, 1, 1, 1, 1, 2},
            {0, 0, 0, 1, 1, 2}, {1, 0, 0, 0, 1, 2}};
        for (int[] row : due) {
            x.ticks(1);
            for (int p = 0; p < 3; p++) {
                person(x, p, 1, row[2 * p]);
                person(x, p, 2, row[2 * p + 1]);
            }
        }
    }

    private static void calling() {
        KnockLane x = Check.lane("lane 5;house h 2;person a tramp 0 up kind;calls a h;ear 0;");
        x.ticks(1);
        is(x, 0, 0, 1);
        Check.due("CALLS", x.now(5), 1);
        x.ticks(1);
        is(x, 0, 1, 2);
        person(x, 0, 3, 0);
        person(x, 0, 7, 1);
        Check.due("CALLS", x.now(5), 0);
        x.ticks(5);
        is(x, 0, 1, 2);
        person(x, 0, 7, 6);
        x.quit(0);
        x.ticks(1);
        is(x, 0, 0, 3);
        person(x, 0, 7, 6);
    }

    private static void oneCallOfSeveral() {
        KnockLane x = Check.lane("house h 5;house g 5;house f 4;person b tramp 0 stands kind;person a tramp 5 stands kind;"
            + "calls b g;calls a f;calls a g;calls b h;calls a h;ear 0;");
        x.ticks(1);
        person(x, 1, 3, 1);
        person(x, 1, 6, 5);
        Check.due("CALLS", x.now(5), 4);
        int[][] due = {{0, 1}, {1, 2}, {0, 0}, {1, 0}};
        for (int k = 0; k < 4; k++) {
            Check.due("call(" + k + ", 0)", x.call(k, 0), due[k][0]);
            Check.due("call(" + k + ", 1)", x.call(k, 1), due[k][1]);
        }
        Check.due("quit", x.quit(1), 0);
        x.ticks(1);
        person(x, 1, 3, 0);
        Check.due("CALLS", x.now(5), 3);
        Check.due("the last of them", x.call(2, 0) + x.call(2, 1), 0);
    }

    /** b at 8 is too far; c at 7 and d at 3 are like ones. */
    private static void answering() {
        KnockLane x = Check.lane("house h 5;person a tramp 5 stands kind;person b tramp 8 stands kind;"
            + "person c tramp 7 stands kind;person d tramp 3 stands kind;");
        x.knock(0, 0);
        x.ticks(1);
        is(x, 0, 2, 5);
        person(x, 0, 3, 0);
        person(x, 0, 4, 3);
        person(x, 0, 5, 4);
        person(x, 2, 5, 1);
        person(x, 2, 8, 1);
        person(x, 3, 8, 0);
        person(x, 3, 5, 0);
        Check.due("opened", x.now(6), 1);
        Check.due("shut", x.now(7), 0);
    }

    private static void nearestOrFirst() {
        KnockLane x = Check.lane("house h 5;person a tramp 3 stands kind;person b tramp 6 stands kind;"
            + "person c tramp 5 stands kind;person d tramp 4 stands kind;");
        x.knock(2, 0);
        x.ticks(1);
        person(x, 1, 8, 1);
        Check.due("opened", x.now(6), 1);
        x = Check.lane("ear 0;house h 5;person a tramp 5 stands kind;person b tramp 6 stands kind;");
        x.knock(0, 0);
        x.ticks(1);
        is(x, 0, 1, 5);
        x = Check.lane("ear 9;house h 9;person a tramp 9 stands kind;person b tramp 0 stands kind;");
        x.knock(0, 0);
        x.ticks(1);
        is(x, 0, 2, 9);
        x = Check.lane("ear 8;house h 9;person a tramp 9 stands kind;person b tramp 0 stands kind;");
        x.knock(0, 0);
        x.ticks(1);
        is(x, 0, 1, 9);
    }

    private static void onceInATick() {
        KnockLane x = Check.lane("house h 5;person a tramp 5 stands kind;person b tramp 5 stands kind;"
            + "person c tramp 5 stands kind;");
        x.knock(0, 0);
        x.knock(1, 0);
        x.ticks(1);
        is(x, 0, 2, 5);
        is(x, 1, 1, 5);
        person(x, 0, 7, 0);
        person(x, 1, 7, 1);
        person(x, 2, 8, 1);
        x.ticks(1);
        is(x, 1, 2, 5);
        person(x, 1, 7, 1);
        person(x, 2, 8, 2);
        person(x, 2, 5, 3);
    }

    private static void eachAnswersOnce() {
        KnockLane x = Check.lane("house h 5;person a tramp 5 stands kind;person b tramp 5 stands kind;"
            + "person c tramp 5 stands kind;person d tramp 5 stands kind;person e tramp 5 stands kind;");
        x.knock(0, 0);
        x.knock(1, 0);
        x.knock(2, 0);
        x.ticks(1);
        is(x, 0, 2, 5);
        is(x, 1, 2, 5);
        is(x, 2, 1, 5);
        person(x, 3, 8, 1);
        person(x, 4, 8, 1);
        person(x, 4, 5, 2);
    }

    private static void judging() {
        String[] moods = {"stern", "kind"};
        String[] knows = {"knows a b;", ""};
        for (String mood : moods) {
            for (String know : knows) {
                KnockLane x = Check.lane("house h 5;person a tramp 5 stands stern;person b tramp 5 stands " + mood + ";" + know);
                x.knock(0, 0);
                x.ticks(1);
                boolean shut = mood.equals("stern") && !know.isEmpty();
                is(x, 0, shut ? 0 : 2, 5);
                person(x, 0, 4, shut ? 0 : 3);
                person(x, 0, 3, shut ? -1 : 0);
                person(x, 1, 8, 1);
                person(x, 1, 5, 1);
                Check.due("opened", x.now(6), 1);
                Check.due("shut", x.now(7), shut ? 1 : 0);
            }
        }
    }

    /** b shuts a out; a is in the LANE then, and lets c in. d's turn was ahead: he waits. */
    private static void shutOutAnswers() {
        KnockLane x = Check.lane("house h 5;house g 5;person d tramp 5 stands kind;person a tramp 5 stands kind;"
            + "person b g 5 stands stern;person c tramp 5 stands kind;knows a b;ear 0;");
        x.knock(0, 1);
        x.knock(1, 0);
        x.knock(3, 0);
        x.ticks(1);
        is(x, 0, 1, 5);
        person(x, 0, 7, 1);
        is(x, 1, 0, 5);
        is(x, 3, 2, 5);
        person(x, 1, 8, 1);
        person(x, 2, 8, 1);
        person(x, 3, 5, 2);
        Check.due("shut", x.now(7), 1);
    }

    private static void whoLivesThereIsKnown() {
        KnockLane x = Check.lane("house h 5;person a h 0 stands kind;person e h 0 stands kind;"
            + "person b tramp 5 stands kind;person c tramp 5 stands kind;person d tramp 5 stands kind;knows d a;");
        Check.due("STRANGERS", x.house(0, 2), 12);
        x.knock(2, 0);
        x.ticks(1);
        is(x, 2, 2, 5);
        person(x, 3, 5, 7);
        person(x, 2, 5, 8);
        person(x, 0, 5, 2 + 8 + 16);
        person(x, 1, 5, 1 + 8);
        person(x, 4, 5, 1);
        Check.due("STRANGERS", x.house(0, 2), 4);
        x.knock(3, 0);
        x.knock(4, 0);
        x.ticks(9);
        // b is a STRANGER yet: out again behind 3 TICKS, he lets c in, KNOWS all who live there, and d waits.
        is(x, 3, 0, 5);
        is(x, 4, 1, 5);
        person(x, 4, 7, 9);
        person(x, 3, 7, 2);
        person(x, 2, 8, 1);
        Check.due("STRANGERS", x.house(0, 2), 0);
    }

    private static void staying() {
        KnockLane x = Check.lane("lane 9;house h 4;person a tramp 4 up kind;person b tramp 4 stands kind;stay 2;");
        x.knock(0, 0);
        x.ticks(1);
        is(x, 0, 2, 4);
        person(x, 0, 4, 2);
        x.ticks(1);
        is(x, 0, 2, 4);
        person(x, 0, 4, 1);
        x.ticks(1);
        is(x, 0, 0, 5);
        person(x, 0, 4, 0);
        person(x, 0, 3, -1);
        x = Check.lane("house h 4;person a tramp 4 stands kind;person b tramp 4 stands kind;stay 30;");
        x.knock(0, 0);
        x.ticks(30);
        person(x, 0, 4, 1);
        x.ticks(1);
        is(x, 0, 0, 4);
    }

    /** In the TICK in which he comes out he walks, and KNOCKS or answers as others do. */
    private static void outAndOn() {
        KnockLane x = Check.lane("lane 9;house h 4;house g 5;person a tramp 4 up kind;person b tramp 4 stands kind;"
            + "calls a g;ear 0;stay 1;");
        x.knock(0, 0);
        x.ticks(1);
        is(x, 0, 2, 4);
        x.ticks(1);
        is(x, 0, 1, 5);
        person(x, 0, 3, 1);
        person(x, 0, 7, 1);
        x = Check.lane("lane 9;house h 4;person a tramp 4 stands kind;person b tramp 4 stands kind;"
            + "person c tramp 4 stands kind;ear 0;stay 1;");
        x.knock(0, 0);
        x.ticks(1);
        x.knock(2, 0);
        x.knock(1, 0);
        x.ticks(1);
        is(x, 0, 0, 4);
        person(x, 0, 8, 1);
        is(x, 1, 2, 4);
        is(x, 2, 1, 4);
    }

    private static void waiting() {
        KnockLane x = Check.lane("lane 4;house h 0;person a tramp 0 stands kind;person b tramp 3 down kind;ear 0;");
        x.knock(0, 0);
        x.ticks(2);
        person(x, 0, 7, 2);
        x.quit(0);
        x.go(1, 2);
        x.knock(0, 0);
        x.ticks(2);
        person(x, 0, 7, 4);
    }
}
