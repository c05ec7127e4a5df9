/** Promises 10 to 14: knock, go, quit, meets, calls. */
public final class ActTest {
    private static final String TEXT = "house h 5;house g 5;house f 6;person a h 5 up kind;person b tramp 5 stands kind;"
        + "person c g 6 down kind;";

    public static void main(String[] args) {
        knocking();
        going();
        quitting();
        meeting();
        calling();
        aCallThatCannotBe();
        Check.finish("ActTest");
    }

    private static void knocking() {
        KnockLane x = Check.lane(TEXT);
        Check.due("at his own HOUSE", x.knock(0, 0), 3);
        Check.due("elsewhere", x.knock(0, 2), 2);
        Check.due("elsewhere, and his own", x.knock(2, 1), 2);
        Check.due("knock(a, g)", x.knock(0, 1), 0);
        Check.due("he is KNOCKING", Check.person(x, 0, 0), 1);
        Check.due("there", Check.person(x, 0, 3), 1);
        Check.due("not in the LANE", x.knock(0, 1), 1);
        Check.due("not in the LANE, and elsewhere", x.knock(0, 2), 1);
        int[][] none = {{-1, 0}, {3, 0}, {0, -1}, {0, 3}, {Integer.MAX_VALUE, Integer.MIN_VALUE}};
        for (int[] n : none) {
            Check.due("knock(" + n[0] + ", " + n[1] + ")", x.knock(n[0], n[1]), KnockLane.NONE);
        }
        Check.due("a CALL stays when he KNOCKS by himself", x.calls(1, 0) + x.knock(1, 0) + x.now(5), 1);
        x = Check.lane("house h 5;person a tramp 5 stands kind;person b tramp 5 stands kind;");
        x.knock(0, 0);
        x.ticks(1);
        Check.due("who is INSIDE", x.knock(0, 0), 1);
    }

    private static void going() {
        KnockLane x = Check.lane(TEXT);
        Check.due("that is his WAY", x.go(0, 0), 2);
        Check.due("go(a, 1)", x.go(0, 1), 0);
        Check.due("down", Check.person(x, 0, 2), 1);
        Check.due("go(a, 2)", x.go(0, 2), 0);
        Check.due("stands", Check.person(x, 0, 2), 2);
        Check.due("go(a, 0)", x.go(0, 0), 0);
        Check.due("up", Check.person(x, 0, 2), 0);
        Check.due("his PLACE is what it was", Check.person(x, 0, 1), 5);
        x.knock(0, 1);
        Check.due("not in the LANE, and his WAY", x.go(0, 0), 1);
        Check.due("not in the LANE", x.go(0, 1), 1);
        int[][] none = {{-1, 0}, {3, 0}, {1, -1}, {1, 3}, {0, Integer.MAX_VALUE}};
        for (int[] n : none) {
            Check.due("go(" + n[0] + ", " + n[1] + ")", x.go(n[0], n[1]), KnockLane.NONE);
        }
    }

    private static void quitting() {
        KnockLane x = Check.lane(TEXT);
        Check.due("in the LANE", x.quit(0), 1);
        x.knock(0, 1);
        Check.due("quit(a)", x.quit(0), 0);
        Check.due("he is in the LANE", Check.person(x, 0, 0), 0);
        Check.due("at no HOUSE", Check.person(x, 0, 3), KnockLane.NONE);
        Check.due("at its PLACE", Check.person(x, 0, 1), 5);
        Check.due("again", x.quit(0), 1);
        Check.due("quit(-1)", x.quit(-1), KnockLane.NONE);
        Check.due("quit(3)", x.quit(3), KnockLane.NONE);
        x = Check.lane("house h 5;person a tramp 5 stands kind;person b tramp 5 stands kind;");
        x.knock(0, 0);
        x.ticks(1);
        Check.due("who is INSIDE", x.quit(0), 1);
    }

    private static void meeting() {
        KnockLane x = Check.lane(TEXT);
        Check.due("meets(a, c)", x.meets(0, 2), 0);
        Check.due("a KNOWS", Check.person(x, 0, 5), 4);
        Check.due("c KNOWS", Check.person(x, 2, 5), 1);
        Check.due("b KNOWS", Check.person(x, 1, 5), 0);
        Check.due("again", x.meets(0, 2), 1);
        Check.due("again", x.meets(2, 0), 1);
        Check.due("no STRANGER any more", x.house(0, 2), 2);
        int[][] none = {{0, 0}, {1, 1}, {-1, 0}, {0, -1}, {3, 0}, {0, 3}, {5, 5}, {-1, -1}};
        for (int[] n : none) {
            Check.due("meets(" + n[0] + ", " + n[1] + ")", x.meets(n[0], n[1]), KnockLane.NONE);
        }
        KnockLane one = Check.lane("house h 1;person a h 1 up kind;person b h 9 up kind;");
        Check.due("of one HOUSE", one.meets(0, 1), 1);
    }

    private static void calling() {
        KnockLane x = Check.lane(TEXT + "house e 1;house d 2;house i 3;");
        Check.due("at his own", x.calls(0, 0), 1);
        Check.due("calls(a, g)", x.calls(0, 1), 0);
        Check.due("again", x.calls(0, 1), 2);
        Check.due("calls(b, g)", x.calls(1, 1), 0);
        Check.due("the last CALL", x.call(1, 0) * 10 + x.call(1, 1), 11);
        Check.due("bits", Check.person(x, 0, 6), 2);
        for (int h = 0; h < 6; h++) {
            if (h != 1) {
                Check.due("calls(b, " + h + ")", x.calls(1, h), 0);
            }
        }
        for (int h = 2; h < 6; h++) {
            Check.due("calls(a, " + h + ")", x.calls(0, h), 0);
        }
        Check.due("the 12th", x.calls(2, 0), 0);
        Check.due("CALLS", x.now(5), 12);
        Check.due("a 13th", x.calls(2, 2), 3);
        Check.due("a 13th, told", x.calls(0, 1), 2);
        Check.due("a 13th, his own", x.calls(0, 0), 1);
        Check.due("the 12th", x.call(11, 0) * 10 + x.call(11, 1), 20);
        int[][] none = {{-1, 0}, {3, 0}, {0, -1}, {0, 6}, {Integer.MIN_VALUE, 0}};
        for (int[] n : none) {
            Check.due("calls(" + n[0] + ", " + n[1] + ")", x.calls(n[0], n[1]), KnockLane.NONE);
        }
    }

    private static void aCallThatCannotBe() {
        KnockLane x = Check.lane(TEXT);
        String before = Check.all(x);
        int[] why = {x.knock(0, 0), x.go(0, 0), x.quit(1), x.meets(1, 1), x.calls(0, 0), x.ticks(0), x.ticks(61),
            x.drawn(0, 1), x.drawn(61, 1), x.knock(9, 9), x.calls(-1, 0)};
        int[] due = {3, 2, 1, -1, 1, -1, -1, -1, -1, -1, -1};
        for (int i = 0; i < due.length; i++) {
            Check.due("refused act " + i, why[i], due[i]);
        }
        Check.due("nothing changed", Check.all(x), before);
        Check.due("nothing to undo", x.undo(), KnockLane.NONE);
    }
}
