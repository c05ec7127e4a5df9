/** The passage marked 2, its first half: how PERSONS are, and what each act can not do. */
public final class EdgeActTest {
    /** a lives in h, c in g; h and g are at 5, f at 6. */
    private static final String LANE = "house h 5;house g 5;house f 6;person a h 5 stands kind;person b tramp 5 up kind;"
        + "person c g 6 down kind;";

    public static void main(String[] args) {
        inTheLaneAtFirst();
        thePlaceOfTheHouse();
        knowingIsOfBoth();
        ofOneHouse();
        nobodyKnowsHimself();
        strangers();
        nobodyLivesThere();
        callsInOrder();
        twelveCallsAtMost();
        knockNotInTheLane();
        knockNotHisPlace();
        knockHeLivesThere();
        knockTheLeast();
        goNotInTheLane();
        goThatIsHisWay();
        quitNotKnocking();
        meetTheyKnow();
        callHeLivesThere();
        callHeIsTo();
        callTwelve();
        callTheLeast();
        callFromAnywhere();
        Check.finish("EdgeActTest");
    }

    /** a INSIDE h, b KNOCKING at h, c in the LANE. */
    private static KnockLane oneOfEach() {
        KnockLane x = Check.lane("house h 5;" + Check.tramps("abc", 5));
        x.knock(0, 0);
        x.ticks(1);
        x.knock(1, 0);
        Check.due("one of each", x.now(1) * 100 + x.now(2) * 10 + x.now(3), 421);
        return x;
    }

    private static void inTheLaneAtFirst() {
        Check.says("A PERSON is in the LANE (at first), KNOCKING at a HOUSE, or INSIDE one");
        KnockLane x = Check.lane(LANE);
        Check.due("now(1)", x.now(1), 7);
        for (int p = 0; p < 3; p++) {
            Check.due("person(" + p + ", 0)", Check.person(x, p, 0), 0);
            Check.none("person(" + p + ", 3)", Check.person(x, p, 3));
        }
        x = oneOfEach();
        int[] how = {2, 1, 0};
        int[] where = {0, 0, -1};
        for (int p = 0; p < 3; p++) {
            Check.due("person(" + p + ", 0)", Check.person(x, p, 0), how[p]);
            Check.due("person(" + p + ", 3)", Check.person(x, p, 3), where[p]);
        }
    }

    private static void thePlaceOfTheHouse() {
        Check.says("he has a PLACE (that of the HOUSE, if he is not in the LANE)");
        KnockLane x = Check.lane("house h 5;person a tramp 4 up kind;person b tramp 5 stands kind;calls a h;stay 2;");
        x.ticks(1);
        Check.due("INSIDE, behind a CALL", Check.person(x, 0, 0) * 10 + Check.person(x, 0, 1), 25);
        x.ticks(1);
        Check.due("INSIDE yet", Check.person(x, 0, 0) * 10 + Check.person(x, 0, 1), 25);
        x.ticks(1);
        Check.due("out, and on", Check.person(x, 0, 0) * 10 + Check.person(x, 0, 1), 6);
        x = Check.lane("house h 5;person a tramp 4 up kind;calls a h;");
        x.ticks(9);
        Check.due("KNOCKING all the time", Check.person(x, 0, 0) * 10 + Check.person(x, 0, 1), 15);
    }

    private static void knowingIsOfBoth() {
        Check.says("KNOWING is of both");
        KnockLane x = Check.lane(LANE);
        Check.due("meets(2, 0)", x.meets(2, 0), 0);
        Check.due("a", Check.person(x, 0, 5), 4);
        Check.due("c", Check.person(x, 2, 5), 1);
        Check.due("b", Check.person(x, 1, 5), 0);
        x = Check.lane(LANE + "knows b a;");
        Check.due("a", Check.person(x, 0, 5), 2);
        Check.due("b", Check.person(x, 1, 5), 1);
    }

    private static void ofOneHouse() {
        Check.says("who live in one HOUSE KNOW one another");
        StringBuilder text = new StringBuilder("house i 5;house j 5;");
        for (int p = 0; p < 8; p++) {
            text.append("person ").append("abcdefgh".charAt(p)).append(p < 7 ? " i" : " j").append(" 1 up kind;");
        }
        KnockLane x = Check.lane(text.toString());
        for (int p = 0; p < 7; p++) {
            Check.due("person(" + p + ", 5)", Check.person(x, p, 5), 127 & ~(1 << p));
        }
        Check.due("person(7, 5)", Check.person(x, 7, 5), 0);
    }

    private static void nobodyKnowsHimself() {
        Check.says("nobody KNOWS himself");
        KnockLane x = Check.lane("house i 5;house j 5;person a i 5 stands kind;person b i 5 stands kind;person c j 5 "
            + "stands kind;");
        for (int p = 0; p < 3; p++) {
            Check.none("meets(" + p + ", " + p + ")", x.meets(p, p));
        }
        Check.due("knock(0, 1)", x.knock(0, 1), 0);
        x.ticks(1);
        for (int p = 0; p < 3; p++) {
            Check.due("himself", Check.person(x, p, 5) >> p & 1, 0);
        }
    }

    private static void strangers() {
        Check.says("A STRANGER of a HOUSE does not live there, and KNOWS nobody who does");
        KnockLane x = Check.lane("house h 5;person a h 1 up kind;person b h 1 up kind;" + Check.tramps("cde", 1)
            + "knows b c;knows c d;");
        Check.due("d, e", x.house(0, 2), 8 + 16);
        x.meets(3, 1);
        Check.due("e", x.house(0, 2), 16);
        x.meets(0, 4);
        Check.due("nobody", x.house(0, 2), 0);
        Check.due("now(4)", x.now(4), 0);
        x.undo();
        Check.due("now(4)", x.now(4), 1);
        KnockLane alone = Check.lane("house h 5;person a h 1 up kind;");
        Check.due("who lives there alone", alone.house(0, 2), 0);
    }

    private static void nobodyLivesThere() {
        Check.says("(if nobody lives there, all are)");
        KnockLane x = Check.lane("house i 5;" + Check.tramps("abcdefgh", 1));
        Check.due("all", x.house(0, 2), 255);
        x.meets(0, 1);
        Check.due("all", x.house(0, 2), 255);
        Check.due("without PERSONS", Check.lane("house h 5;").house(0, 2), 0);
        Check.due("without PERSONS", Check.lane("house h 5;").now(4), 0);
    }

    private static void calls(KnockLane x, int... pairs) {
        Check.due("CALLS", x.now(5), pairs.length);
        for (int k = 0; k < pairs.length; k++) {
            Check.due("call(" + k + ")", x.call(k, 0) * 10 + x.call(k, 1), pairs[k]);
        }
        Check.none("call(" + pairs.length + ", 0)", x.call(pairs.length, 0));
        Check.none("call(" + pairs.length + ", 1)", x.call(pairs.length, 1));
    }

    private static void callsInOrder() {
        Check.says("CALLS are kept in the order in which they were told");
        KnockLane x = Check.lane("house h 5;house g 6;" + Check.tramps("abc", 6) + "calls b h;calls a g;calls b g;ear 0;");
        calls(x, 10, 1, 11);
        x.calls(2, 0);
        x.calls(0, 0);
        calls(x, 10, 1, 11, 20, 0);
        x.ticks(1);
        // a and b are at g's PLACE and KNOCK there: the second and the third are none any more.
        calls(x, 10, 20, 0);
        x.calls(1, 1);
        calls(x, 10, 20, 0, 11);
    }

    private static String twelve() {
        StringBuilder text = new StringBuilder("house i 5;house j 5;" + Check.tramps("abcdefg", 1));
        for (char p : "abcdef".toCharArray()) {
            text.append("calls ").append(p).append(" i;calls ").append(p).append(" j;");
        }
        return text.toString();
    }

    private static void twelveCallsAtMost() {
        Check.says("12 at most.");
        KnockLane x = Check.lane(twelve());
        calls(x, 0, 1, 10, 11, 20, 21, 30, 31, 40, 41, 50, 51);
        Check.due("a 13th", x.calls(6, 0), 3);
        calls(x, 0, 1, 10, 11, 20, 21, 30, 31, 40, 41, 50, 51);
        // a comes to i and KNOCKS: one of the twelve is none any more, and there is room for another one.
        x.go(0, 0);
        x.ticks(4);
        Check.due("a KNOCKS", Check.person(x, 0, 3), 0);
        Check.due("the 12th again", x.calls(6, 0), 0);
        calls(x, 1, 10, 11, 20, 21, 30, 31, 40, 41, 50, 51, 60);
        Check.due("a 13th again", x.calls(6, 1), 3);
    }

    private static void knockNotInTheLane() {
        Check.says("To let one KNOCK at a HOUSE: why not, the least: 1 he is not in the LANE");
        KnockLane x = oneOfEach();
        Check.due("INSIDE", x.knock(0, 0), 1);
        Check.due("KNOCKING", x.knock(1, 0), 1);
        Check.due("in the LANE", x.knock(2, 0), 0);
        Check.due("he is KNOCKING there", Check.person(x, 2, 0) * 10 + Check.person(x, 2, 3), 10);
        Check.due("house(0, 3)", x.house(0, 3), 6);
    }

    private static void knockNotHisPlace() {
        Check.says("2 its PLACE is not his");
        int[] due = {2, 2, 0, 2, 2};
        for (int place = 3; place <= 7; place++) {
            KnockLane x = Check.lane("house h 5;" + Check.tramps("a", place));
            Check.due("from " + place, x.knock(0, 0), due[place - 3]);
        }
        KnockLane x = Check.lane("lane 2;house h 0;house g 1;" + Check.tramps("a", 0) + Check.tramps("b", 1));
        Check.due("0 and 1", x.knock(0, 1), 2);
        Check.due("1 and 0", x.knock(1, 0), 2);
        Check.due("0 and 0", x.knock(0, 0), 0);
        Check.due("1 and 1", x.knock(1, 1), 0);
    }

    private static void knockHeLivesThere() {
        Check.says("3 he lives there: he is KNOCKING there.");
        KnockLane x = Check.lane(LANE);
        Check.due("his own", x.knock(0, 0), 3);
        Check.due("he is in the LANE", Check.person(x, 0, 0), 0);
        Check.due("another's", x.knock(0, 1), 0);
        Check.due("a tramp", x.knock(1, 0), 0);
        x = Check.lane("house h 5;person a h 5 stands kind;" + Check.tramps("b", 5) + "knows a b;");
        Check.due("one who KNOWS who lives there can", x.knock(1, 0), 0);
    }

    private static void knockTheLeast() {
        Check.says("why not, the least");
        KnockLane x = Check.lane(LANE);
        Check.due("elsewhere, and his own: 2", x.knock(2, 1), 2);
        x.knock(0, 1);
        Check.due("KNOCKING, and his own: 1", x.knock(0, 0), 1);
        Check.due("KNOCKING, and elsewhere: 1", x.knock(0, 2), 1);
        x.go(2, 2);
        Check.due("c KNOCKS at f", x.knock(2, 2), 0);
        Check.due("KNOCKING, elsewhere, and his own: 1", x.knock(2, 1), 1);
    }

    private static void goNotInTheLane() {
        Check.says("To let him GO a WAY: 1 he is not in the LANE");
        KnockLane x = oneOfEach();
        for (int way = 0; way < 3; way++) {
            Check.due("INSIDE", x.go(0, way), 1);
            Check.due("KNOCKING", x.go(1, way), 1);
        }
        Check.due("in the LANE", x.go(2, 0), 0);
        Check.due("it is", Check.person(x, 2, 2), 0);
    }

    private static void goThatIsHisWay() {
        Check.says("2 that is his WAY: it is.");
        for (int from = 0; from < 3; from++) {
            for (int to = 0; to < 3; to++) {
                String way = new String[] {"up", "down", "stands"}[from];
                KnockLane x = Check.lane("person a tramp 9 " + way + " kind;");
                Check.due("go from " + from + " to " + to, x.go(0, to), from == to ? 2 : 0);
                Check.due("it is", Check.person(x, 0, 2), to);
                Check.due("his PLACE", Check.person(x, 0, 1), 9);
            }
        }
    }

    private static void quitNotKnocking() {
        Check.says("To QUIT: 1 he is not KNOCKING: he is in the LANE.");
        KnockLane x = oneOfEach();
        Check.due("INSIDE", x.quit(0), 1);
        Check.due("he is INSIDE yet", Check.person(x, 0, 0), 2);
        Check.due("in the LANE", x.quit(2), 1);
        Check.due("KNOCKING", x.quit(1), 0);
        Check.due("he is in the LANE", Check.person(x, 1, 0), 0);
        Check.none("at no HOUSE", Check.person(x, 1, 3));
        Check.due("house(0, 3)", x.house(0, 3), 0);
    }

    private static void meetTheyKnow() {
        Check.says("To MEET another one: 1 they KNOW one another: they do.");
        KnockLane x = oneOfEach();
        Check.due("b let a in", x.meets(0, 1), 1);
        Check.due("b let a in", x.meets(1, 0), 1);
        Check.due("one who KNOCKS and one in the LANE", x.meets(1, 2), 0);
        Check.due("one in the LANE and one INSIDE", x.meets(2, 0), 0);
        Check.due("they do", Check.person(x, 0, 5) * 100 + Check.person(x, 1, 5) * 10 + Check.person(x, 2, 5), 653);
        Check.due("again", x.meets(0, 2), 1);
        x = Check.lane("lane 20;person a tramp 0 up kind;person b tramp 19 up kind;");
        Check.due("far from one another", x.meets(0, 1), 0);
    }

    private static void callHeLivesThere() {
        Check.says("To CALL at a HOUSE: why not, the least: 1 he lives there");
        KnockLane x = Check.lane(LANE);
        Check.due("his own", x.calls(0, 0), 1);
        Check.due("his own", x.calls(2, 1), 1);
        Check.due("another's", x.calls(0, 1), 0);
        Check.due("a tramp", x.calls(1, 0), 0);
    }

    private static void callHeIsTo() {
        Check.says("2 he is to CALL there");
        KnockLane x = Check.lane(LANE);
        Check.due("calls(1, 2)", x.calls(1, 2), 0);
        Check.due("again", x.calls(1, 2), 2);
        Check.due("another one", x.calls(0, 2), 0);
        Check.due("elsewhere", x.calls(1, 1), 0);
        x.ticks(1);
        Check.due("b KNOCKS at f, or is INSIDE", Check.person(x, 1, 3), 2);
        Check.due("the CALL is none any more", x.calls(1, 2), 0);
    }

    private static void callTwelve() {
        Check.says("3 there are 12 CALLS: it is the last CALL.");
        KnockLane x = Check.lane(twelve().replace("calls f j;", ""));
        Check.due("11", x.now(5), 11);
        Check.due("the 12th", x.calls(6, 1), 0);
        Check.due("it is the last", x.call(11, 0) * 10 + x.call(11, 1), 61);
        Check.due("a 13th", x.calls(5, 1), 3);
        Check.due("12", x.now(5), 12);
    }

    private static void callTheLeast() {
        Check.says("why not, the least: 1 he lives there; 2 he is to CALL there; 3 there are 12 CALLS");
        KnockLane x = Check.lane(twelve() + "person k i 1 up kind;");
        Check.due("12, and his own: 1", x.calls(7, 0), 1);
        Check.due("12, and told: 2", x.calls(0, 0), 2);
        Check.due("12: 3", x.calls(7, 1), 3);
    }

    private static void callFromAnywhere() {
        Check.says("To CALL at a HOUSE");
        KnockLane x = oneOfEach();
        Check.due("INSIDE", x.calls(0, 0), 0);
        Check.due("KNOCKING", x.calls(1, 0), 0);
        Check.due("at its PLACE", x.calls(2, 0), 0);
        Check.due("he is in the LANE until the TICK", Check.person(x, 2, 0), 0);
    }
}
