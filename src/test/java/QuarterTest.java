/** Promises 4 and 5: quarter and fault. */
public final class QuarterTest {
    private static final String P = "person p tramp 5 up kind;";
    private static final String Q = "person q tramp 5 up kind;";

    public static void main(String[] args) {
        goodTexts();
        faultsOfTokens();
        faultsOfNumbers();
        faultsOfNames();
        faultsOfPairs();
        faultsOfNumber4();
        longTexts();
        aFaultChangesNothing();
        aNewQuarter();
        faultIsOfTheLatest();
        Check.finish("QuarterTest");
    }

    private static void good(String text, int lines) {
        KnockLane x = new KnockLane();
        Check.due("quarter() of " + text, Check.quarter(x, text), lines);
        Check.due("fault() of " + text, x.fault(), 0);
        Check.due("tape behind " + text, x.count(5), 0);
    }

    private static void bad(String text, int kind, int place) {
        KnockLane x = new KnockLane();
        Check.due("quarter() of " + text, Check.quarter(x, text), -1 - place);
        Check.due("fault() of " + text, x.fault(), kind);
        Check.due("tape behind " + text, x.count(5), 0);
        Check.due("lane behind " + text, x.count(2), 10);
        Check.due("houses behind " + text, x.count(0), 0);
    }

    private static void goodTexts() {
        good("", 0);
        good(" \n ", 0);
        good("lane 2;", 1);
        good("lane 20;", 1);
        good("lane 002 \n;\n", 1);
        good("lane\n9;ear 9;stay 30;", 3);
        good("ear 0;stay 1;lane 3;house h 2;", 4);
        good("house abcdefgh 9;", 1);
        good("house h 009;", 1);
        good("house h 5;person p h 5 down stern;house g 5;person q g 0 stands kind;", 4);
        good(P + Q + "knows p q;", 3);
        good("house h 1;" + P + "calls p h;", 3);
        good("house a 1;house b 2;house c 3;house d 4;house e 5;house f 6;", 6);
        good(eightPersons(), 8);
    }

    private static void faultsOfTokens() {
        bad(";", 1, 0);
        bad("x", 1, 0);
        bad("5;", 1, 0);
        bad("tramp 5;", 1, 0);
        bad("tick 5;", 1, 0);
        bad("Lane 5;", 1, 0);
        bad("lane\t5;", 1, 4);
        bad("lane 5.;", 1, 6);
        bad("lane", 1, 4);
        bad("lane  ", 1, 6);
        bad("lane 5", 1, 6);
        bad("lane 5 6;", 1, 7);
        bad("lane5;", 1, 0);
        bad("lane 5;;", 1, 7);
        bad("lane five;", 1, 5);
        bad("lane 0005;", 1, 5);
        bad("lane 5x;", 1, 5);
        bad("lane <;", 1, 5);
        bad("house abcdefghi 1;", 1, 6);
        bad("house h1 1;", 1, 6);
        bad("house 1 1;", 1, 6);
        bad("house h h;", 1, 8);
        bad("house h 1 up;", 1, 10);
        bad("house (h) 1;", 1, 6);
        bad("house . 1;", 1, 6);
        bad("house h 1;person p . 1 up kind;", 1, 19);
        bad("house \u0000 1;", 1, 6);
        for (String word : Model.WORDS) {
            bad("house " + word + " 1;", 1, 6);
            bad("person " + word + " tramp 1 up kind;", 1, 7);
        }
        bad("person p up 5 up kind;", 1, 9);
        bad("person p 5 5 up kind;", 1, 9);
        bad("person p tramp up up kind;", 1, 15);
        bad("person p tramp 5 kind up;", 1, 17);
        bad("person p tramp 5 stern;", 1, 17);
        bad("person p tramp 5 up up;", 1, 20);
        bad("person p tramp 5 up;", 1, 19);
        bad(P + "knows p;", 1, 32);
        bad(P + "knows lane p;", 1, 31);
        bad(P + "knows 1 p;", 1, 31);
        bad(P + "calls p tramp;", 1, 33);
        bad(P + "calls p 3;", 1, 33);
        bad("ear x;", 1, 4);
        bad("stay ;", 1, 5);
        bad("house h 1;\u00e9", 1, 10);
    }

    private static void faultsOfNumbers() {
        bad("lane 1;", 2, 5);
        bad("lane 21;", 2, 5);
        bad("lane 0;", 2, 5);
        bad("ear 10;", 2, 4);
        bad("stay 0;", 2, 5);
        bad("stay 31;", 2, 5);
        bad("house h 10;", 2, 8);
        bad("lane 3;house h 3;", 2, 15);
        bad("lane 3;person p tramp 3 up kind;", 2, 22);
        bad("lane 1 x", 2, 5);
    }

    private static void faultsOfNames() {
        bad("lane 5;lane 5;", 3, 7);
        bad("house h 1;lane 5;", 3, 10);
        bad(P + "lane 5;", 3, 25);
        bad(P + "lane 1;", 3, 25);
        bad("ear 1;ear 1;", 3, 6);
        bad("stay 1;stay 1;", 3, 7);
        bad("house h 1;house h 1;", 3, 16);
        bad("house h 1;person h tramp 1 up kind;", 3, 17);
        bad(P + "house p 1;", 3, 31);
        bad(P + P, 3, 32);
        bad("person p h 1 up kind;", 3, 9);
        bad("person p p 1 up kind;", 3, 9);
        bad(P + "person q p 1 up kind;", 3, 34);
        bad("person p h 1 up kind;house h 1;", 3, 9);
    }

    private static void faultsOfPairs() {
        bad(P + "knows x p;", 3, 31);
        bad(P + "knows p x;", 3, 33);
        bad("house h 1;" + P + "knows h p;", 3, 41);
        bad("house h 1;" + P + "knows p h;", 3, 43);
        bad(P + "knows p p;", 3, 33);
        bad(P + Q + "knows p q;knows p q;", 3, 68);
        bad(P + Q + "knows p q;knows q p;", 3, 68);
        bad("house h 5;person p h 5 up kind;person q h 5 up kind;knows q p;", 3, 60);
        bad("house h 1;" + P + "calls h h;", 3, 41);
        bad("house h 1;" + P + "calls p p;", 3, 43);
        bad("house h 1;" + P + "calls p h;calls p h;", 3, 53);
        bad("house h 5;person p h 5 up kind;calls p h;", 3, 39);
    }

    private static void faultsOfNumber4() {
        String six = "house a 1;house b 2;house c 3;house d 4;house e 5;house f 6;";
        bad(six + "house g 7;", 4, 60);
        bad(six + "house a", 4, 60);
        String eight = eightPersons();
        bad(eight + "person i tramp 1 up kind;", 4, eight.length());
        bad(eight + "person 5", 4, eight.length());
        StringBuilder calls = new StringBuilder(six).append("person p tramp 5 up kind;person q tramp 5 up kind;");
        calls.append("person r tramp 5 up kind;");
        for (char p : "pq".toCharArray()) {
            for (char h : "abcdef".toCharArray()) {
                calls.append("calls ").append(p).append(' ').append(h).append(';');
            }
        }
        good(calls.toString(), 6 + 3 + 12);
        bad(calls + "calls r a;", 4, calls.length());
        bad(calls + "calls p a;", 4, calls.length());
    }

    private static String eightPersons() {
        StringBuilder text = new StringBuilder();
        for (char p = 'a'; p < 'i'; p++) {
            text.append("person ").append(p).append(" tramp 1 up kind;");
        }
        return text.toString();
    }

    private static String blanks(int n) {
        return " ".repeat(n);
    }

    private static void longTexts() {
        good("lane 5;" + blanks(893), 1);
        bad("lane 5;" + blanks(894), 1, 900);
        bad("lane 5;" + blanks(933), 1, 900);
        good(blanks(893) + "lane 5;", 1);
        bad(blanks(894) + "lane 5;", 1, 900);
        bad(blanks(894) + "lane 55;", 2, 899);
        bad(blanks(894) + "lane 19;", 1, 900);
        bad(blanks(894) + "lane 5555;", 1, 899);
        bad(blanks(898) + "lane 19;", 1, 900);
        bad(blanks(898) + "house h 1;", 1, 900);
        bad(blanks(899) + "lane", 1, 900);
        bad(blanks(895) + "lane 99;", 1, 900);
        bad("ear 1;" + blanks(894) + "ear 1;", 1, 900);
        bad(blanks(894) + "house lane 1;", 1, 900);
        bad("house h 1;" + blanks(884) + "house h 1;", 1, 900);
        bad(blanks(898) + "lanes", 1, 898);
        bad(blanks(910) + "x", 1, 900);
        bad("lane 5" + blanks(900), 1, 900);
        bad("lane" + blanks(896), 1, 900);
        bad("lane 1;" + blanks(900), 2, 5);
        bad("ear 1;" + blanks(883) + "ear 1;", 3, 889);
        bad(blanks(940), 1, 900);
    }

    private static void aFaultChangesNothing() {
        KnockLane x = Check.lane("lane 4;house h 2;person a tramp 2 up stern;ear 1;");
        Check.sentence(x, "stern");
        x.knock(0, 0);
        String before = Check.all(x);
        Check.due("a FAULT", Check.quarter(x, "lane 9;house g 1;person b g 1 up kind;house g"), -1 - 44);
        Check.due("nothing changed", Check.all(x), before);
        Check.due("tag", Check.tag(x, 0), "a knocks at h");
        Check.due("undo() is not forgotten", x.undo(), 0);
    }

    private static void aNewQuarter() {
        KnockLane x = Check.lane("lane 6;ear 0;stay 9;house h 5;person a tramp 5 stands stern;person b tramp 5 stands stern;"
            + "person o h 0 stands kind;person q tramp 5 stands kind;knows a b;knows o q;calls q h;");
        x.knock(3, 0);
        Check.sentence(x, "stern");
        x.knock(0, 0);
        x.ticks(1);
        x.knock(1, 0);
        x.ticks(1);
        Check.due("opened", x.now(6) > 0, true);
        Check.due("shut", x.now(7) > 0, true);
        Check.due("a new one", Check.quarter(x, "person c tramp 7 down kind;person d tramp 8 down kind;"), 2);
        int[] due = {0, 3, 0, 0, 0, 0, 0, 0};
        for (int w = 0; w < 8; w++) {
            Check.due("new: now(" + w + ")", x.now(w), due[w]);
        }
        int[] duePerson = {0, 7, 1, -1, 0, 0, 0, 0, 0, -1, 0};
        for (int w = 0; w < 11; w++) {
            Check.due("new: person(0, " + w + ")", Check.person(x, 0, w), duePerson[w]);
        }
        Check.due("no SENTENCE", x.said(-1), KnockLane.NONE);
        Check.due("no HOUSE", x.house(0, 0), KnockLane.NONE);
        Check.due("nothing to undo", x.undo(), KnockLane.NONE);
        Check.due("PLACES, ear, stay", x.count(2) * 100 + x.count(3) * 10 + x.count(4), 1023);
        Check.due("one HOUSE, one PERSON", Check.quarter(x, "house g 5;person c tramp 5 stands kind;"), 2);
        Check.due("nobody lives there", x.house(0, 1), 0);
        Check.due("who lived in the old one is no matter", x.house(0, 2), 1);
        x.knock(0, 0);
        Check.due("those of the old one do not answer", x.answer(0), KnockLane.NONE);
        Check.due("nor could they", x.most(), 0);
        Check.due("an empty one", x.quarter(), 0);
        Check.due("10 PLACES", x.count(2), 10);
        Check.due("no PERSONS", x.count(1), 0);
    }

    private static void faultIsOfTheLatest() {
        KnockLane x = new KnockLane();
        Check.quarter(x, "lane 1;");
        Check.due("fault() of a quarter()", x.fault(), 2);
        Check.due("book(2)", x.book(2), -1000);
        Check.due("fault() behind book(2)", x.fault(), 2);
        Check.book(x, 0, "");
        Check.due("fault() of a book() without one", x.fault(), 0);
        Check.book(x, 1, "nobody quits;");
        Check.due("fault() of a book()", x.fault(), 3);
        Check.sentence(x, "stern");
        Check.due("fault() of a sentence() without one", x.fault(), 0);
        Check.sentence(x, "");
        Check.due("fault() of a sentence()", x.fault(), 1);
        x.ticks(1);
        x.who();
        Check.due("fault() behind other calls", x.fault(), 1);
        x.quarter();
        Check.due("fault() of a quarter() without one", x.fault(), 0);
    }
}
