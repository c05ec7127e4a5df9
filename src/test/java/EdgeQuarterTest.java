/** Terms: the QUARTER, sentence by sentence, with what is so once a QUARTER is told. */
public final class EdgeQuarterTest {
    private static final String P = "person p tramp 5 up kind;";
    private static final String Q = "person q tramp 5 up kind;";
    private static final String HOUSES = "house ha 0;house hb 9;house hc 1;house hd 2;house he 3;house hf 4;";
    private static final String PERSONS = "person pa ha 0 up kind;person pb hb 9 down stern;person pc tramp 5 stands kind;"
        + "person pd tramp 5 up stern;person pe ha 1 up kind;person pf hc 2 up kind;person pg tramp 3 up kind;"
        + "person ph tramp 4 up stern;";

    public static void main(String[] args) {
        atMost900Bytes();
        linesEnd();
        lane2To20();
        placesFrom0On();
        laneOnceAndAhead();
        laneOf10Without();
        houseLines();
        trampsLiveInNone();
        unlikeKnows();
        callsNotTold();
        ear0To9();
        stay1To30();
        earAndStayOnce();
        waysFrom0();
        moods();
        namesAreNoKeywords();
        namesToldOnce();
        sixHouses();
        eightPersons();
        twelveCalls();
        allAtOnce();
        aNewQuarter();
        Check.finish("EdgeQuarterTest");
    }

    private static void atMost900Bytes() {
        Check.says("A QUARTER is a text of at most 900 bytes");
        String text = HOUSES + PERSONS;
        Check.goodQuarter(text + " ".repeat(900 - text.length()), 14);
        Check.badQuarter(text + " ".repeat(901 - text.length()), 1, 900);
        Check.goodQuarter(" ".repeat(900 - text.length()) + text, 14);
        Check.badQuarter(" ".repeat(901 - text.length()) + text, 1, 900);
        Check.goodQuarter("", 0);
    }

    private static void linesEnd() {
        Check.says("{ LINE ; }");
        Check.goodQuarter("", 0);
        Check.goodQuarter("lane 5;", 1);
        Check.goodQuarter("lane 5;ear 1;", 2);
        Check.badQuarter("lane 5", 1, 6);
        Check.badQuarter("lane 5 ear 1;", 1, 7);
        Check.badQuarter(";", 1, 0);
        Check.badQuarter("lane 5;;", 1, 7);
        Check.badQuarter(";lane 5;", 1, 0);
    }

    private static void lane2To20() {
        Check.says("'lane' N (2 to 20 PLACES");
        for (int n = 2; n <= 20; n++) {
            Check.due("lane " + n, Check.lane("lane " + n + ";").count(2), n);
        }
        int[] not = {0, 1, 21, 22, 100, 999};
        for (int n : not) {
            Check.badQuarter("lane " + n + ";", 2, 5);
        }
    }

    private static void placesFrom0On() {
        Check.says("PLACES, from 0 on");
        int[] lanes = {2, 3, 10, 20};
        for (int n : lanes) {
            String lane = "lane " + n + ";";
            for (int place = 0; place < n; place++) {
                KnockLane x = Check.lane(lane + "house h " + place + ";person p tramp " + place + " up kind;");
                Check.due("a HOUSE's PLACE", x.house(0, 0), place);
                Check.due("a PERSON's PLACE", Check.person(x, 0, 1), place);
            }
            Check.badQuarter(lane + "house h " + n + ";", 2, lane.length() + 8);
            Check.badQuarter(lane + "person p tramp " + n + " up kind;", 2, lane.length() + 15);
        }
    }

    private static void laneOnceAndAhead() {
        Check.says("once, ahead of all 'house', 'person'");
        Check.goodQuarter("ear 1;stay 1;lane 5;house h 4;", 4);
        Check.goodQuarter("lane 5;house h 4;" + "person p h 4 up kind;", 3);
        Check.badQuarter("lane 5;lane 6;", 3, 7);
        Check.badQuarter("house h 4;lane 5;", 3, 10);
        Check.badQuarter(P + "lane 5;", 3, 25);
        Check.badQuarter("ear 1;house h 4;stay 1;lane 10;", 3, 23);
    }

    private static void laneOf10Without() {
        Check.says("10 without");
        KnockLane x = Check.lane("house h 9;");
        Check.due("count(2)", x.count(2), 10);
        Check.due("its PLACE", x.house(0, 0), 9);
        Check.badQuarter("house h 10;", 2, 8);
        Check.quarter(x, "lane 20;");
        Check.due("count(2)", x.count(2), 20);
        Check.quarter(x, "ear 1;");
        Check.due("count(2) of the next one", x.count(2), 10);
    }

    private static void houseLines() {
        Check.says("'house' NAME PLACE");
        Check.goodQuarter("house h 0;", 1);
        Check.goodQuarter("house h 5;house g 5;", 2);
        Check.badQuarter("house h;", 1, 7);
        Check.badQuarter("house 5;", 1, 6);
        Check.badQuarter("house h 5 5;", 1, 10);
    }

    private static void trampsLiveInNone() {
        Check.says("( HOUSE | 'tramp' (he lives in none) ) PLACE WAY MOOD");
        KnockLane x = Check.lane("house h 5;" + P + "person a h 1 down stern;");
        Check.due("a tramp's HOUSE", Check.person(x, 0, 9), KnockLane.NONE);
        Check.due("the other's", Check.person(x, 1, 9), 0);
        Check.due("who live there", x.house(0, 1), 2);
        Check.due("two tramps do not KNOW one another", Check.lane(P + Q).person(0, 5), 0);
        Check.badQuarter("person p 5 up kind;", 1, 9);
        Check.badQuarter("person p house 5 up kind;", 1, 9);
        Check.badQuarter("person p tramp up kind;", 1, 15);
        Check.badQuarter("person p tramp 5 kind;", 1, 17);
        Check.badQuarter("person p tramp 5 up;", 1, 19);
        Check.badQuarter("person p tramp 5 up kind stern;", 1, 25);
    }

    private static void unlikeKnows() {
        Check.says("'knows' PERSON PERSON (unlike, not of one HOUSE, who do not know one another so far)");
        String text = "house h 5;house g 5;person a h 1 up kind;person b h 1 up kind;person c g 1 up kind;" + P + Q;
        String[] pairs = {"a c", "c a", "a p", "p a", "p q", "q p", "c q"};
        for (String pair : pairs) {
            Check.goodQuarter(text + "knows " + pair + ";", 8);
            Check.badQuarter(text + "knows " + pair + ";knows " + pair + ";", 3, text.length() + 18);
        }
        String[] not = {"a a", "a b", "b a", "c c", "q q"};
        for (String pair : not) {
            Check.badQuarter(text + "knows " + pair + ";", 3, text.length() + 8);
        }
        KnockLane x = Check.lane(text + "knows a c;knows c p;");
        Check.due("whom c KNOWS", Check.person(x, 2, 5), 1 + 8);
        Check.due("whom p KNOWS", Check.person(x, 3, 5), 4);
        Check.due("whom a KNOWS", Check.person(x, 0, 5), 2 + 4);
    }

    private static void callsNotTold() {
        Check.says("'calls' PERSON HOUSE (not his own, not told of him)");
        String text = "house h 5;house g 5;person a h 1 up kind;" + P;
        int at = text.length();
        Check.goodQuarter(text + "calls a g;calls p g;calls p h;", 7);
        Check.badQuarter(text + "calls a h;", 3, at + 8);
        Check.badQuarter(text + "calls a g;calls a g;", 3, at + 18);
        Check.badQuarter(text + "calls p g;calls a g;calls p h;calls p g;", 3, at + 38);
    }

    private static void ear0To9() {
        Check.says("'ear' N (0 to 9; once; 2 without)");
        for (int n = 0; n <= 9; n++) {
            Check.due("ear " + n, Check.lane("ear " + n + ";").count(3), n);
        }
        int[] not = {10, 11, 100, 999};
        for (int n : not) {
            Check.badQuarter("ear " + n + ";", 2, 4);
        }
        KnockLane x = Check.lane("ear 9;");
        Check.quarter(x, "lane 5;");
        Check.due("without", x.count(3), 2);
    }

    private static void stay1To30() {
        Check.says("'stay' N (1 to 30; once; 3 without)");
        for (int n = 1; n <= 30; n++) {
            Check.due("stay " + n, Check.lane("stay " + n + ";").count(4), n);
        }
        int[] not = {0, 31, 100, 999};
        for (int n : not) {
            Check.badQuarter("stay " + n + ";", 2, 5);
        }
        KnockLane x = Check.lane("stay 9;");
        Check.quarter(x, "lane 5;");
        Check.due("without", x.count(4), 3);
    }

    private static void earAndStayOnce() {
        Check.says("once");
        Check.badQuarter("ear 2;ear 2;", 3, 6);
        Check.badQuarter("stay 3;stay 3;", 3, 7);
        Check.goodQuarter("house h 1;" + P + "stay 3;ear 2;", 4);
        KnockLane x = Check.lane("ear 1;stay 1;lane 4;");
        Check.due("told in one QUARTER, and in the next", Check.quarter(x, "ear 2;stay 2;lane 5;"), 3);
    }

    private static void waysFrom0() {
        Check.says("WAY: 'up', 'down', 'stands', numbered from 0");
        String[] ways = {"up", "down", "stands"};
        for (int w = 0; w < 3; w++) {
            KnockLane x = Check.lane("person p tramp 5 " + ways[w] + " kind;");
            Check.due(ways[w], Check.person(x, 0, 2), w);
        }
        Check.badQuarter("person p tramp 5 tramp kind;", 1, 17);
        Check.badQuarter("person p tramp 5 stay kind;", 1, 17);
        Check.badQuarter("person p tramp 5 kind kind;", 1, 17);
    }

    private static void moods() {
        Check.says("MOOD: 'kind', 'stern'");
        Check.due("kind", Check.lane("person p tramp 5 up kind;").person(0, 10), 0);
        Check.due("stern", Check.lane("person p tramp 5 up stern;").person(0, 10), 1);
        Check.badQuarter("person p tramp 5 up stands;", 1, 20);
        Check.badQuarter("person p tramp 5 up knocks;", 1, 20);
        Check.badQuarter("person p tramp 5 up p;", 1, 20);
    }

    private static void namesAreNoKeywords() {
        Check.says("NAME: a WORD, none of those told here, in a BOOK or a SENTENCE");
        String[] words = ("lane house person tramp knows calls ear stay up down stands kind stern knocks goes quits "
            + "meets tick or and not walking knocking inside of place known waited number").split(" ");
        Check.due("how many", words.length, 29);
        for (String word : words) {
            Check.badQuarter("house " + word + " 1;", 1, 6);
            Check.badQuarter("person " + word + " tramp 1 up kind;", 1, 7);
            Check.goodQuarter("house " + word.substring(0, word.length() - 1) + " 1;", 1);
            if (word.length() < 8) {
                Check.goodQuarter("person " + word + "x tramp 1 up kind;", 1);
            }
        }
        String[] others = {"n", "name", "line", "quarter", "book", "all", "one", "sign", "at", "in", "way", "mood", "ticks"};
        for (String other : others) {
            Check.goodQuarter("house " + other + " 1;", 1);
        }
    }

    private static void namesToldOnce() {
        Check.says("told once");
        Check.goodQuarter("house h 1;house hh 1;person hhh h 1 up kind;person g hh 1 up kind;", 4);
        Check.badQuarter("house h 1;house hh 1;house h 1;", 3, 27);
        Check.badQuarter("house h 1;house hh 1;person hh h 1 up kind;", 3, 28);
        KnockLane x = Check.lane("house h 1;" + P);
        Check.due("the same NAMES in the next QUARTER, of other sorts", Check.quarter(x, "house p 1;person h p 1 up kind;"), 2);
    }

    private static void sixHouses() {
        Check.says("6 HOUSES");
        KnockLane x = Check.lane(HOUSES);
        int[] places = {0, 9, 1, 2, 3, 4};
        for (int h = 0; h < 6; h++) {
            Check.due("house(" + h + ", 0)", x.house(h, 0), places[h]);
        }
        Check.none("house(6, 0)", x.house(6, 0));
        Check.due("count(0)", x.count(0), 6);
        Check.badQuarter(HOUSES + "house hg 1;", 4, HOUSES.length());
    }

    private static void eightPersons() {
        Check.says("8 PERSONS");
        KnockLane x = Check.lane(HOUSES + PERSONS);
        int[] homes = {0, 1, -1, -1, 0, 2, -1, -1};
        for (int p = 0; p < 8; p++) {
            Check.due("person(" + p + ", 9)", Check.person(x, p, 9), homes[p]);
        }
        Check.due("person(8, 9)", Check.person(x, 8, 9), Check.THROWN);
        Check.due("count(1)", x.count(1), 8);
        Check.badQuarter(HOUSES + PERSONS + "person pi tramp 1 up kind;", 4, HOUSES.length() + PERSONS.length());
    }

    private static String calls(int n) {
        StringBuilder text = new StringBuilder();
        for (int k = 0; k < n; k++) {
            text.append("calls p").append("cdgh".charAt(k / 4)).append(" h").append("bcde".charAt(k % 4)).append(';');
        }
        return text.toString();
    }

    private static void twelveCalls() {
        Check.says("12 'calls' at most, numbered from 0 each.");
        KnockLane x = Check.lane(HOUSES + PERSONS + calls(12));
        int[] who = {2, 3, 6};
        for (int k = 0; k < 12; k++) {
            Check.due("call(" + k + ", 0)", x.call(k, 0), who[k / 4]);
            Check.due("call(" + k + ", 1)", x.call(k, 1), 1 + k % 4);
        }
        Check.none("call(12, 0)", x.call(12, 0));
        Check.due("now(5)", x.now(5), 12);
        Check.badQuarter(HOUSES + PERSONS + calls(13), 4, (HOUSES + PERSONS + calls(12)).length());
    }

    private static void allAtOnce() {
        Check.says("6 HOUSES, 8 PERSONS, 12 'calls' at most");
        String text = "lane 20;ear 9;stay 30;" + HOUSES + PERSONS + calls(12) + "knows pc pd;knows pa pb;";
        Check.due("it is short enough", text.length() <= 900, true);
        KnockLane x = new KnockLane();
        Check.due("quarter()", Check.quarter(x, text), 3 + 6 + 8 + 12 + 2);
        int[] due = {6, 8, 20, 9, 30, 0};
        for (int w = 0; w < 6; w++) {
            Check.due("count(" + w + ")", x.count(w), due[w]);
        }
        Check.due("all in the LANE", x.now(1), 255);
        Check.due("the HOUSES where nobody lives have STRANGERS, the others too", x.now(4), 63);
    }

    /** Everything that can be so is so ahead of it: TICKS, one INSIDE, one OPENED, one shut, a SENTENCE. */
    private static void aNewQuarter() {
        Check.says("A new QUARTER: TICK 0, all in the LANE, nobody OPENED, no SENTENCE.");
        KnockLane x = Check.lane("house h 5;" + Check.tramps("a", 5) + "person b tramp 5 stands stern;" + Check.tramps("c", 5)
            + "knows b c;");
        Check.sentence(x, "stern");
        x.knock(0, 0);
        x.ticks(1);
        x.knock(2, 0);
        x.ticks(1);
        Check.due("OPENED and shut", x.now(6) * 10 + x.now(7), 21);
        Check.due("INSIDE", x.now(3), 1);
        Check.due("SENTENCE", x.said(-1), 1);
        x.calls(2, 0);
        x.knock(2, 0);
        Check.due("the same again", Check.quarter(x, "house h 5;" + Check.tramps("abc", 5)), 4);
        int[] now = {0, 7, 0, 0, 1, 0, 0, 0};
        for (int w = 0; w < 8; w++) {
            Check.due("now(" + w + ")", x.now(w), now[w]);
        }
        for (int p = 0; p < 3; p++) {
            Check.persons(x, p, 0, 5, 2, -1, 0, 0, 0, 0, 0, -1, 0);
        }
        Check.none("busiest()", x.busiest());
        Check.none("said(-1)", x.said(-1));
        Check.none("said(0)", x.said(0));
        Check.none("undo()", x.undo());
    }
}
