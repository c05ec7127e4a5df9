/** Promises 24 to 26: opens, known, meet. */
public final class AheadTest {
    /** v begins to KNOCK in TICK 4 and is let in in TICK 318. */
    static final String LONG_OPENS = "lane 17;house h 15;house g 9;house f 15;house e 14;house d 13;house c 16;"
        + "person p e 4 down kind;person q tramp 14 up kind;person r tramp 8 down kind;person s tramp 8 down kind;"
        + "person t c 16 up kind;person u tramp 9 up kind;person v tramp 10 up kind;person w tramp 8 up kind;ear 0;stay 30;"
        + "calls q d;calls s h;calls w d;calls s e;calls u e;calls r e;calls s c;calls w e;calls w h;calls v e;calls s f;"
        + "calls q e;";
    /** All are known behind 313 TICKS. */
    static final String LONG_KNOWN = "lane 17;house h 13;house g 5;house f 9;person p h 1 stands stern;"
        + "person q g 8 down kind;person r f 12 down kind;person s tramp 11 down kind;person t tramp 10 up stern;"
        + "person u tramp 7 up kind;person v tramp 5 up kind;person w tramp 16 up kind;ear 0;stay 28;calls v f;calls v g;"
        + "calls w h;calls w g;calls u f;calls u g;calls v h;calls s h;calls t h;calls q h;calls u h;calls q f;knows t w;"
        + "knows u r;knows p v;knows t v;";
    /** r and t meet behind 305 TICKS. */
    static final String LONG_MEET = "lane 20;house h 3;house g 13;house f 15;house e 2;house d 6;house c 0;"
        + "person p h 19 up kind;person q tramp 10 down kind;person r tramp 1 down kind;person s tramp 2 down kind;"
        + "person t tramp 3 up kind;ear 0;stay 28;calls t e;calls q c;calls r h;calls p e;calls r d;calls s h;calls p d;"
        + "calls s e;calls s d;calls s c;calls t f;calls t h;";

    public static void main(String[] args) {
        opensByOneWhoComes();
        opensNever();
        knowns();
        meetings();
        threeHundred();
        tick1000IsNoMatter();
        nothingChanges();
        againstTheTicks();
        Check.finish("AheadTest");
    }

    private static void opensByOneWhoComes() {
        KnockLane x = Check.lane("house h 5;person a tramp 5 stands kind;person b tramp 9 down kind;ear 1;");
        Check.due("in the LANE", x.opens(0), KnockLane.NONE);
        x.knock(0, 0);
        Check.due("opens(0)", x.opens(0), 3);
        x.ticks(2);
        Check.due("opens(0)", x.opens(0), 1);
        x.ticks(1);
        Check.due("INSIDE", Check.person(x, 0, 0), 2);
        Check.due("who is INSIDE", x.opens(0), KnockLane.NONE);
        Check.due("opens(-1)", x.opens(-1), KnockLane.NONE);
        Check.due("opens(2)", x.opens(2), KnockLane.NONE);
    }

    private static void opensNever() {
        KnockLane x = Check.lane("house h 5;person a tramp 5 stands kind;person b tramp 9 down stern;knows a b;calls a h;");
        x.knock(0, 0);
        Check.due("shut out, though let in later on", x.opens(0), KnockLane.NONE);
        x = Check.lane("house h 5;person a tramp 5 stands kind;");
        x.knock(0, 0);
        Check.due("nobody is there", x.opens(0), KnockLane.NONE);
    }

    private static void knowns() {
        KnockLane x = new KnockLane();
        Check.due("without HOUSES", x.known(), 0);
        x = Check.lane("person a tramp 1 up kind;");
        Check.due("without HOUSES", x.known(), 0);
        x = Check.lane("house h 1;");
        Check.due("without PERSONS", x.known(), 0);
        x = Check.lane("house h 1;person a h 1 up kind;");
        Check.due("he lives there", x.known(), 0);
        x = Check.lane("house h 1;person a tramp 1 up kind;");
        Check.due("nobody lives there", x.known(), KnockLane.NONE);
        x = Check.lane("house h 5;person r h 0 stands kind;person a tramp 5 stands kind;person b tramp 8 down kind;"
            + "knows r a;calls a h;ear 0;");
        Check.due("b answers in TICK 3", x.known(), 3);
        x.ticks(3);
        Check.due("now", x.known(), 0);
    }

    private static void meetings() {
        KnockLane x = Check.lane("lane 9;stay 5;house h 8;person a tramp 0 up kind;person b tramp 5 stands kind;"
            + "person c tramp 0 stands kind;person d tramp 8 stands kind;person e tramp 1 up kind;");
        Check.due("meet(a, b)", x.meet(0, 1), 5);
        Check.due("meet(b, a)", x.meet(1, 0), 5);
        Check.due("meet(a, c)", x.meet(0, 2), 0);
        Check.due("meet(b, c)", x.meet(1, 2), KnockLane.NONE);
        Check.due("meet(a, d)", x.meet(0, 3), 8);
        Check.due("meet(a, e)", x.meet(0, 4), 8);
        x.knock(3, 0);
        // e lets d in in TICK 5, he is out in TICK 10, and a, who goes down by then, comes again in TICK 26.
        Check.due("d is KNOCKING, then INSIDE", x.meet(0, 3), 26);
        x.quit(3);
        int[][] none = {{0, 0}, {-1, 0}, {0, -1}, {5, 0}, {0, 5}, {5, 5}, {-1, -1}};
        for (int[] n : none) {
            Check.due("meet(" + n[0] + ", " + n[1] + ")", x.meet(n[0], n[1]), KnockLane.NONE);
        }
    }

    private static void go(KnockLane x, int n) {
        for (int left = n; left > 0; left -= 60) {
            x.ticks(Math.min(60, left));
        }
    }

    private static void threeHundred() {
        KnockLane x = Check.lane(LONG_OPENS);
        go(x, 17);
        Check.due("he is KNOCKING", Check.person(x, 6, 0), 1);
        Check.due("opens() in 301", x.opens(6), KnockLane.NONE);
        x.ticks(1);
        Check.due("opens() in 300", x.opens(6), 300);
        go(x, 300);
        Check.due("he is INSIDE", Check.person(x, 6, 0), 2);
        x = Check.lane(LONG_KNOWN);
        go(x, 12);
        Check.due("known() in 301", x.known(), KnockLane.NONE);
        x.ticks(1);
        Check.due("known() in 300", x.known(), 300);
        go(x, 299);
        Check.due("one is a STRANGER yet", x.now(4) != 0, true);
        x.ticks(1);
        Check.due("no STRANGERS", x.now(4), 0);
        x = Check.lane(LONG_MEET);
        go(x, 4);
        Check.due("meet() in 301", x.meet(2, 4), KnockLane.NONE);
        x.ticks(1);
        Check.due("meet() in 300", x.meet(2, 4), 300);
        go(x, 300);
        Check.due("they meet", Check.person(x, 2, 1), Check.person(x, 4, 1));
        Check.due("they meet", x.meet(2, 4), 0);
    }

    private static void tick1000IsNoMatter() {
        KnockLane x = Check.lane("lane 9;house h 5;person r h 0 stands kind;person a tramp 5 stands kind;"
            + "person b tramp 8 stands kind;knows r a;ear 0;");
        go(x, 1000);
        Check.due("TICK", x.now(0), 1000);
        x.go(2, 1);
        Check.due("meet()", x.meet(1, 2), 3);
        x.knock(1, 0);
        Check.due("opens()", x.opens(1), 3);
        Check.due("known()", x.known(), 3);
        Check.due("ticks(1)", x.ticks(1), 0);
    }

    private static void nothingChanges() {
        KnockLane x = Check.lane(LONG_OPENS);
        x.ticks(20);
        String before = Check.all(x);
        x.opens(6);
        x.known();
        x.meet(0, 1);
        x.answer(6);
        x.most();
        x.chain(0, 1);
        x.odds(0, 30, 1);
        Check.due("all is as it was", Check.all(x), before);
        Check.due("undo()", x.undo(), 0);
    }

    /** What is told ahead comes so. */
    private static void againstTheTicks() {
        for (int seed = 1; seed < 60; seed++) {
            KnockLane x = Check.lane(seed % 2 == 0 ? LONG_OPENS : LONG_KNOWN);
            x.drawn(1 + seed % 50, seed * 7919);
            int known = x.known();
            int meet = x.meet(seed % 8, (seed + 3) % 8);
            int[] opens = new int[8];
            for (int p = 0; p < 8; p++) {
                opens[p] = x.opens(p);
            }
            for (int t = 0; t < 60; t++) {
                Check.due("known() by TICK " + t, x.now(4) == 0, known != KnockLane.NONE && known <= t);
                if (meet == t) {
                    Check.due("meet() by TICK " + t, x.meet(seed % 8, (seed + 3) % 8), 0);
                }
                for (int p = 0; p < 8; p++) {
                    if (opens[p] != KnockLane.NONE && t <= opens[p]) {
                        Check.due("opens() by TICK " + t, Check.person(x, p, 0), t < opens[p] ? 1 : 2);
                    }
                }
                x.ticks(1);
            }
        }
    }
}
