/** The passage marked 2, its second half: a TICK, round by round and sentence by sentence. */
public final class EdgeTickTest {
    public static void main(String[] args) {
        tick0To999();
        tick1000IsOver();
        roundsInOrder();
        personByPerson();
        oneTickLess();
        outForTheRoundsBehind();
        upAndDown();
        theOtherWay();
        whoStands();
        whoIsNotInTheLane();
        theFirstSuchCall();
        oneCallATick();
        callsOfOthers();
        callsNotInTheLane();
        knockedAtOnce();
        byOneInTheLane();
        earOrFewer();
        aStranger();
        answeredNobodyYet();
        theNearest();
        ofLikeOnesTheFirst();
        waitedOneMore();
        openedOnceMore();
        sternAndKnows();
        knownOnlyBehindIt();
        mayAnswerOthersYet();
        insideForStay();
        knowsThatOne();
        knowsAllWhoLiveThere();
        knownWithinTheRound();
        theNextTick();
        Check.finish("EdgeTickTest");
    }

    private static int how(KnockLane x, int p) {
        return Check.person(x, p, 0);
    }

    private static int place(KnockLane x, int p) {
        return Check.person(x, p, 1);
    }

    private static void tick0To999() {
        Check.says("A TICK (0 to 999");
        KnockLane x = Check.lane("lane 2;person a tramp 0 up kind;");
        Check.due("at first", x.now(0), 0);
        Check.go(x, 999);
        Check.due("999", x.now(0), 999);
        int before = place(x, 0) * 10 + Check.person(x, 0, 2);
        Check.due("TICK 999 goes by", x.ticks(1), 1);
        Check.due("a goes on in it", place(x, 0) * 10 + Check.person(x, 0, 2) == before, false);
        Check.due("1000", x.now(0), 1000);
    }

    private static void tick1000IsOver() {
        Check.says("1000: all are over)");
        KnockLane x = Check.lane("lane 2;house h 0;person a tramp 0 up kind;" + Check.tramps("b", 0));
        Check.go(x, 995);
        Check.due("five are left", x.ticks(60), 5);
        String before = Check.all(x);
        Check.due("none is left", x.ticks(1), 0);
        Check.due("none is left", x.ticks(60), 0);
        Check.due("none is left", x.drawn(1, 0), 0);
        Check.due("all is as it was", Check.all(x), before);
        Check.due("1000", x.now(0), 1000);
        Check.due("one can act yet", x.knock(1, 0), 0);
        Check.due("and quit", x.quit(1), 0);
        Check.due("and be known", x.meets(0, 1), 0);
        Check.due("and be to CALL", x.calls(1, 0), 0);
        Check.due("and be undone", x.undo() + x.undo() + x.undo() + x.undo(), 7 + 6 + 5 + 4);
    }

    /** In one TICK c is out, b comes near, a comes to the door and KNOCKS: each round uses those ahead of it. */
    private static void roundsInOrder() {
        Check.says("goes, in these rounds");
        KnockLane x = Check.lane("house i 5;house j 8;person a tramp 4 up kind;person b tramp 8 down kind;calls a i;ear 2;");
        x.ticks(1);
        Check.due("a is INSIDE at once: b, who came to 7, answered", how(x, 0) * 10 + Check.person(x, 1, 8), 21);
        x = Check.lane("house i 5;person a tramp 5 stands kind;person b tramp 7 up kind;ear 2;");
        x.knock(0, 0);
        x.ticks(1);
        Check.due("b, who came to 8, did not", how(x, 0) * 10 + Check.person(x, 1, 8), 10);
        x = Check.lane("house i 5;person a tramp 5 stands kind;person b tramp 4 up kind;calls b i;ear 2;");
        x.knock(0, 0);
        x.ticks(1);
        Check.due("b, who KNOCKS by then, did not", how(x, 0) * 10 + how(x, 1), 11);
    }

    private static void personByPerson() {
        Check.says("PERSON by PERSON each");
        KnockLane x = Check.lane("house i 5;" + Check.tramps("abcd", 5));
        x.knock(2, 0);
        x.knock(1, 0);
        x.knock(0, 0);
        int[] inside = {1, 3, 7};
        for (int t = 0; t < 3; t++) {
            x.ticks(1);
            Check.due("INSIDE behind " + (t + 1), x.now(3), inside[t]);
        }
    }

    private static void oneTickLess() {
        Check.says("who is INSIDE has one TICK less to stay; at 0 he is in the LANE");
        int[] stays = {1, 2, 3, 29, 30};
        for (int stay : stays) {
            KnockLane x = Check.lane("house i 5;" + Check.tramps("ab", 5) + "stay " + stay + ";");
            x.knock(0, 0);
            x.ticks(1);
            for (int left = stay; left > 0; left--) {
                Check.due("INSIDE", how(x, 0), 2);
                Check.due("TICKS to stay", Check.person(x, 0, 4), left);
                x.ticks(1);
            }
            Check.due("in the LANE", how(x, 0), 0);
            Check.due("TICKS to stay", Check.person(x, 0, 4), 0);
            Check.none("at no HOUSE", Check.person(x, 0, 3));
        }
    }

    private static void outForTheRoundsBehind() {
        Check.says("he is in the LANE (for the rounds behind this one, too)");
        KnockLane x = Check.lane("house i 5;house j 6;person a tramp 5 up kind;person b tramp 5 stands kind;calls a "
            + "j;ear 0;stay 1;");
        x.knock(0, 0);
        x.ticks(1);
        Check.due("INSIDE", how(x, 0) * 10 + place(x, 0), 25);
        x.ticks(1);
        Check.due("he walks and KNOCKS", how(x, 0) * 10 + place(x, 0), 16);
        Check.due("and waits", Check.person(x, 0, 7), 1);
        x = Check.lane("house i 5;" + Check.tramps("abc", 5) + "ear 0;stay 1;");
        x.knock(0, 0);
        x.ticks(1);
        x.knock(1, 0);
        x.knock(2, 0);
        x.ticks(1);
        Check.due("he answers", Check.person(x, 0, 8), 1);
        Check.due("the first of those who KNOCK", x.now(3), 2);
    }

    private static void walk(KnockLane x, int... due) {
        for (int t = 0; t < due.length; t++) {
            x.ticks(1);
            Check.due("PLACE and WAY behind " + (t + 1), place(x, 0) * 10 + Check.person(x, 0, 2), due[t]);
        }
    }

    private static void upAndDown() {
        Check.says("goes on by his WAY (up: the next PLACE; down: the one ahead of it)");
        walk(Check.lane("person a tramp 4 up kind;"), 50, 60, 70, 80, 90);
        walk(Check.lane("person a tramp 5 down kind;"), 41, 31, 21, 11, 1);
    }

    private static void theOtherWay() {
        Check.says("where there is none, he stays, and goes the other WAY from then on.");
        walk(Check.lane("lane 2;person a tramp 0 up kind;"), 10, 11, 1, 0, 10, 11, 1, 0);
        walk(Check.lane("lane 2;person a tramp 0 down kind;"), 0, 10, 11, 1, 0);
        walk(Check.lane("lane 20;person a tramp 18 up kind;"), 190, 191, 181);
        walk(Check.lane("lane 20;person a tramp 19 up kind;"), 191, 181);
        walk(Check.lane("person a tramp 9 up kind;"), 91, 81);
        walk(Check.lane("person a tramp 1 down kind;"), 1, 0, 10);
    }

    private static void whoStands() {
        Check.says("by his WAY");
        walk(Check.lane("person a tramp 0 stands kind;"), 2, 2, 2);
        walk(Check.lane("person a tramp 9 stands kind;"), 92, 92, 92);
    }

    private static void whoIsNotInTheLane() {
        Check.says("Who is in the LANE goes on");
        walk(knocking("house i 5;person a tramp 5 up kind;"), 50, 50);
        walk(knocking("house i 9;person a tramp 9 up kind;"), 90, 90);
        KnockLane x = knocking("house i 9;person a tramp 9 up kind;" + Check.tramps("b", 9) + "stay 2;");
        walk(x, 90, 90, 91, 81);
    }

    private static KnockLane knocking(String text) {
        KnockLane x = Check.lane(text);
        Check.due("knock(0, 0)", x.knock(0, 0), 0);
        return x;
    }

    private static void theFirstSuchCall() {
        Check.says("Who is in the LANE, and is to CALL at a HOUSE at his PLACE: the first such CALL of his is none any more");
        KnockLane x = Check.lane("house i 5;house j 5;house k 4;" + Check.tramps("a", 5) + "calls a k;calls a j;calls a i;");
        x.ticks(1);
        Check.due("he KNOCKS at j", how(x, 0) * 10 + Check.person(x, 0, 3), 11);
        Check.due("k and i are left", Check.person(x, 0, 6), 5);
        Check.due("in their order", x.call(0, 1) * 10 + x.call(1, 1), 20);
        x = Check.lane("house i 5;" + Check.tramps("a", 4) + "calls a i;");
        x.ticks(60);
        Check.due("next to it", how(x, 0) * 10 + x.now(5), 1);
    }

    private static void oneCallATick() {
        Check.says("he is KNOCKING there.");
        KnockLane x = Check.lane("house i 5;house j 5;" + Check.tramps("a", 5) + "calls a i;calls a j;");
        x.ticks(5);
        Check.due("at the first", Check.person(x, 0, 3), 0);
        Check.due("the second is left", x.now(5) * 10 + x.call(0, 1), 11);
        x.quit(0);
        x.ticks(1);
        Check.due("at the second", Check.person(x, 0, 3), 1);
        Check.due("none is left", x.now(5), 0);
    }

    private static void callsOfOthers() {
        Check.says("the first such CALL of his");
        KnockLane x = Check.lane("house i 5;" + Check.tramps("a", 0) + Check.tramps("b", 5) + "calls a i;calls b i;");
        x.ticks(1);
        Check.due("b KNOCKS", how(x, 1), 1);
        Check.due("a's is left", x.now(5) * 100 + x.call(0, 0) * 10 + x.call(0, 1), 100);
    }

    private static void callsNotInTheLane() {
        Check.says("Who is in the LANE, and is to CALL");
        KnockLane x = knocking("house i 5;house j 5;" + Check.tramps("a", 5) + "calls a j;calls a i;");
        x.ticks(3);
        Check.due("who KNOCKS keeps both", x.now(5), 2);
        x = knocking("house i 5;" + Check.tramps("ab", 5) + "calls a i;stay 2;");
        x.ticks(2);
        Check.due("who is INSIDE keeps it", how(x, 0) * 10 + x.now(5), 21);
        x.ticks(1);
        Check.due("out, he KNOCKS again and is let in", how(x, 0) * 10 + x.now(5), 20);
    }

    private static void knockedAtOnce() {
        Check.says("Who is KNOCKING is ANSWERED");
        KnockLane x = Check.lane("house i 5;" + Check.tramps("ab", 5) + "calls a i;");
        x.ticks(1);
        Check.due("in the TICK in which he KNOCKS", how(x, 0), 2);
        Check.due("he did not wait", Check.person(x, 0, 7), 0);
    }

    private static void byOneInTheLane() {
        Check.says("by one who is in the LANE");
        KnockLane x = Check.lane("house i 5;" + Check.tramps("ab", 5));
        x.knock(0, 0);
        x.knock(1, 0);
        x.ticks(3);
        Check.due("two who KNOCK do not answer one another", x.now(2), 3);
        Check.due("both waited", Check.person(x, 0, 7) * 10 + Check.person(x, 1, 7), 33);
        x = Check.lane("house i 5;" + Check.tramps("abc", 5) + "stay 30;");
        x.knock(0, 0);
        x.ticks(1);
        x.knock(1, 0);
        x.knock(2, 0);
        x.ticks(5);
        Check.due("nor does who is INSIDE", x.now(2), 6);
    }

    private static void earOrFewer() {
        Check.says("'ear' PLACES or fewer from that HOUSE");
        for (int ear = 0; ear <= 9; ear++) {
            for (int far = 0; far <= 9; far++) {
                KnockLane x = knocking("lane 20;house i 10;" + Check.tramps("a", 10) + Check.tramps("b", 10 + far)
                    + "ear " + ear + ";");
                KnockLane y = knocking("lane 20;house i 10;" + Check.tramps("a", 10) + Check.tramps("b", 10 - far)
                    + "ear " + ear + ";");
                x.ticks(1);
                y.ticks(1);
                Check.due("ear " + ear + ", " + far + " above", how(x, 0), far <= ear ? 2 : 1);
                Check.due("ear " + ear + ", " + far + " below", how(y, 0), far <= ear ? 2 : 1);
            }
        }
    }

    private static void aStranger() {
        Check.says("a STRANGER of it");
        String text = "house i 5;person a i 0 stands kind;" + Check.tramps("b", 5);
        KnockLane x = Check.lane(text + "person c i 5 stands kind;");
        x.knock(1, 0);
        x.ticks(4);
        Check.due("who lives there does not answer", how(x, 1), 1);
        x = Check.lane(text + Check.tramps("c", 5) + "knows c a;");
        x.knock(1, 0);
        x.ticks(4);
        Check.due("nor who KNOWS one who does", how(x, 1), 1);
        x = Check.lane(text + Check.tramps("c", 5) + "knows c b;");
        x.knock(1, 0);
        x.ticks(1);
        Check.due("who KNOWS but the one who KNOCKS does", how(x, 1), 2);
    }

    private static void answeredNobodyYet() {
        Check.says("and has answered nobody in this TICK");
        KnockLane x = Check.lane("house i 5;house j 5;" + Check.tramps("abc", 5) + "stay 30;");
        x.knock(0, 0);
        x.knock(1, 1);
        x.ticks(1);
        Check.due("one of two", x.now(3), 1);
        Check.due("the other waited", Check.person(x, 1, 7), 1);
        x.ticks(1);
        Check.due("in the next TICK he answers again", x.now(3), 3);
        Check.due("twice", Check.person(x, 2, 8), 2);
        x = Check.lane("house i 5;" + Check.tramps("ab", 5) + "person c tramp 5 stands stern;knows c a;knows c b;");
        x.knock(0, 0);
        x.knock(1, 0);
        x.ticks(1);
        Check.due("who shuts one out has answered him: a, shut out, lets b in", how(x, 0) * 10 + how(x, 1), 2);
        Check.due("OPENED", Check.person(x, 0, 8) * 10 + Check.person(x, 2, 8), 11);
    }

    private static void theNearest() {
        Check.says("the nearest one");
        int[][] cases = {{7, 6, 2}, {3, 4, 2}, {4, 7, 1}, {6, 5, 2}, {5, 4, 1}, {7, 4, 2}};
        for (int[] c : cases) {
            KnockLane x = knocking("house i 5;" + Check.tramps("a", 5) + Check.tramps("b", c[0]) + Check.tramps("c", c[1]));
            x.ticks(1);
            Check.due("of " + c[0] + " and " + c[1], x.busiest(), c[2]);
        }
    }

    private static void ofLikeOnesTheFirst() {
        Check.says("of like ones the first");
        int[][] cases = {{5, 5}, {6, 6}, {6, 4}, {4, 6}, {3, 7}, {7, 3}};
        for (int[] c : cases) {
            KnockLane x = knocking("house i 5;" + Check.tramps("a", 5) + Check.tramps("b", c[0]) + Check.tramps("c", c[1]));
            x.ticks(1);
            Check.due("of " + c[0] + " and " + c[1], x.busiest(), 1);
        }
    }

    private static void waitedOneMore() {
        Check.says("there is none: he has waited one TICK more.");
        KnockLane x = knocking("house i 5;" + Check.tramps("a", 5) + "person b tramp 9 down kind;ear 0;");
        Check.due("at first", Check.person(x, 0, 7), 0);
        for (int t = 1; t < 4; t++) {
            x.ticks(1);
            Check.due("TICKS waited", Check.person(x, 0, 7), t);
        }
        x.ticks(1);
        Check.due("let in: he did not wait", how(x, 0) * 10 + Check.person(x, 0, 7), 23);
        x.ticks(5);
        Check.due("in the LANE he does not wait", how(x, 0) * 10 + Check.person(x, 0, 7), 3);
    }

    private static void openedOnceMore() {
        Check.says("Who answers has OPENED once more");
        KnockLane x = Check.lane("house i 5;" + Check.tramps("a", 5) + "person b tramp 5 stands stern;stay 1;");
        for (int n = 1; n < 5; n++) {
            x.knock(0, 0);
            x.ticks(2);
            Check.due("OPENED", Check.person(x, 1, 8), n);
            Check.due("in all", x.now(6), n);
            Check.due("shut, but for the first time", x.now(7), n - 1);
        }
    }

    private static void sternAndKnows() {
        Check.says("if he is stern and KNOWS the one who KNOCKS, that one is in the LANE");
        for (int stern = 0; stern < 2; stern++) {
            for (int knows = 0; knows < 2; knows++) {
                KnockLane x = knocking("house i 5;person a tramp 5 up stern;person b tramp 5 stands "
                    + (stern == 1 ? "stern;" : "kind;")
                    + (knows == 1 ? "knows b a;" : ""));
                x.ticks(1);
                boolean shut = stern == 1 && knows == 1;
                Check.persons(x, 0, shut ? 0 : 2, 5, 0, shut ? -1 : 0, shut ? 0 : 3, 2, 0, 0, 0);
                Check.due("shut", x.now(7), shut ? 1 : 0);
            }
        }
    }

    private static void knownOnlyBehindIt() {
        Check.says("Who answers KNOWS that one from then on");
        KnockLane x = knocking("house i 5;" + Check.tramps("a", 5) + "person b tramp 5 stands stern;stay 1;");
        x.ticks(1);
        Check.due("stern, and does not KNOW him: let in", how(x, 0), 2);
        Check.due("he KNOWS him then", Check.person(x, 1, 5), 1);
        x.ticks(1);
        x.knock(0, 0);
        x.ticks(1);
        Check.due("stern, and KNOWS him: shut out", how(x, 0), 0);
    }

    /** c shuts b out; a, whose turn was ahead, waits; d, whose turn comes, is let in by b. */
    private static void mayAnswerOthersYet() {
        Check.says("(and may answer others in this round yet)");
        KnockLane x = Check.lane("house i 5;house j 5;person c j 5 stands stern;" + Check.tramps("abd", 5) + "knows b c;ear 0;");
        x.knock(1, 1);
        x.knock(2, 0);
        x.knock(3, 0);
        x.ticks(1);
        Check.due("a waits", how(x, 1) * 10 + Check.person(x, 1, 7), 11);
        Check.due("b is in the LANE", how(x, 2) * 10 + Check.person(x, 2, 8), 1);
        Check.due("d is INSIDE", how(x, 3), 2);
        Check.due("d KNOWS b", Check.person(x, 3, 5), 4);
    }

    private static void insideForStay() {
        Check.says("else he is INSIDE, for 'stay' TICKS.");
        int[] stays = {1, 30};
        for (int stay : stays) {
            KnockLane x = knocking("house i 5;" + Check.tramps("ab", 5) + "stay " + stay + ";");
            x.ticks(1);
            Check.persons(x, 0, 2, 5, 2, 0, stay);
            Check.due("house(0, 4)", x.house(0, 4), 1);
            Check.due("house(0, 3)", x.house(0, 3), 0);
            for (int t = 0; t < stay; t++) {
                Check.due("INSIDE", how(x, 0), 2);
                x.ticks(1);
            }
            Check.due("out", how(x, 0), 0);
        }
        KnockLane x = knocking("house i 5;" + Check.tramps("ab", 5));
        x.ticks(1);
        Check.due("3 without", Check.person(x, 0, 4), 3);
    }

    private static void knowsThatOne() {
        Check.says("KNOWS that one");
        KnockLane x = knocking("house i 5;" + Check.tramps("abc", 5));
        x.ticks(1);
        Check.due("a, b, c", Check.person(x, 0, 5) * 100 + Check.person(x, 1, 5) * 10 + Check.person(x, 2, 5), 210);
        x = knocking("house i 5;" + Check.tramps("a", 5) + "person b tramp 5 stands stern;knows a b;");
        x.ticks(1);
        Check.due("shut out, too", Check.person(x, 0, 5) * 10 + Check.person(x, 1, 5), 21);
    }

    private static void knowsAllWhoLiveThere() {
        Check.says("and all who live in that HOUSE.");
        String[] moods = {"kind", "stern"};
        for (String mood : moods) {
            KnockLane x = knocking("house i 5;" + Check.tramps("a", 5) + "person b tramp 5 stands " + mood
                + ";person c i 0 stands kind;person d i 9 stands kind;" + Check.tramps("e", 9) + "knows a b;");
            x.ticks(1);
            int[] due = {2, 1 + 4 + 8, 2 + 8, 2 + 4, 0};
            for (int p = 0; p < 5; p++) {
                Check.due(mood + ": person(" + p + ", 5)", Check.person(x, p, 5), due[p]);
            }
            Check.due("b is no STRANGER any more", x.house(0, 2), 1 + 16);
        }
    }

    /** b lets a in at r's HOUSE: r KNOWS b then, who lives in j, and so can't let c in there in the same round. */
    private static void knownWithinTheRound() {
        Check.says("from then on");
        String text = "house i 5;house j 5;" + Check.tramps("a", 5) + "person b j 5 stands kind;" + Check.tramps("c", 5)
            + "person r i 5 stands kind;";
        KnockLane x = Check.lane(text);
        x.knock(2, 1);
        Check.due("a, the first, would let c in", x.answer(2), 0);
        x.knock(0, 0);
        Check.due("r would let c in", x.answer(2), 3);
        x.ticks(1);
        Check.due("a is INSIDE, c waits", how(x, 0) * 100 + how(x, 2) * 10 + Check.person(x, 2, 7), 211);
    }

    private static void theNextTick() {
        Check.says("It is the next TICK.");
        KnockLane x = new KnockLane();
        for (int t = 0; t < 5; t++) {
            Check.due("now(0)", x.now(0), t);
            Check.due("ticks(1)", x.ticks(1), 1);
        }
        x.drawn(7, 7);
        Check.due("now(0)", x.now(0), 12);
    }
}
