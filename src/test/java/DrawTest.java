/** Promises 31 and 32: drawn and odds, by the acts and TICKS that the draws tell. */
public final class DrawTest {
    private static final String TEXT = "lane 7;house h 2;house g 3;house f 5;person a h 2 up kind;person b tramp 3 down stern;"
        + "person c g 5 stands kind;person d tramp 4 up stern;person e tramp 1 up kind;knows a b;calls c h;";
    private static final String NO_HOUSES = "lane 3;person a tramp 1 up kind;person b tramp 0 stands kind;";
    private static final String ONE_HOUSE = "lane 4;house h 2;person a tramp 1 up kind;person b tramp 2 stands stern;"
        + "person c h 0 down kind;";
    private static int x;

    public static void main(String[] args) {
        notAsTold();
        byHand();
        asTheDrawsTell();
        asManyAsAreLeft();
        oddsOfSeeds();
        oddsNearTheEnd();
        Check.finish("DrawTest");
    }

    private static int draw(int n) {
        x = x * 1103515245 + 12345;
        return (x >>> 8) % n;
    }

    private static void notAsTold() {
        KnockLane k = Check.lane(TEXT);
        int[] none = {0, -1, 61, Integer.MAX_VALUE, Integer.MIN_VALUE};
        for (int n : none) {
            Check.due("drawn(" + n + ", 1)", k.drawn(n, 1), KnockLane.NONE);
        }
        int[][] odds = {{-1, 1}, {5, 1}, {0, 0}, {0, 31}, {0, -1}, {8, 31}};
        for (int[] o : odds) {
            Check.due("odds(" + o[0] + ", " + o[1] + ", 1)", k.odds(o[0], o[1], 1), KnockLane.NONE);
        }
        Check.due("TICK", k.now(0), 0);
        Check.due("undo()", k.undo(), KnockLane.NONE);
    }

    /** Of seed 0: x is 12345: 48 % 8 is 0, a draw of all HOUSES; of seed 1: 1103527590: 4310654 % 8 is 6, nothing. */
    private static void byHand() {
        KnockLane k = Check.lane("house h 5;person a tramp 5 up kind;");
        Check.due("drawn(1, 0)", k.drawn(1, 0), 1);
        Check.due("he KNOCKS", Check.person(k, 0, 0), 1);
        Check.due("he waited", Check.person(k, 0, 7), 1);
        Check.due("undo()", k.undo(), 0);
        Check.due("drawn(1, 1)", k.drawn(1, 1), 1);
        Check.due("he walks", Check.person(k, 0, 1), 6);
    }

    /** The same by acts and TICKS, one by one. */
    private static void goByHand(KnockLane k, int n, int seed) {
        x = seed;
        for (int t = 0; t < n; t++) {
            for (int p = 0; p < k.count(1); p++) {
                int d = draw(8);
                if (d == 0 && k.count(0) > 0) {
                    k.knock(p, draw(k.count(0)));
                } else if (d == 1) {
                    k.go(p, draw(3));
                } else if (d == 2 && k.count(0) > 0) {
                    k.calls(p, draw(k.count(0)));
                } else if (d == 3) {
                    k.quit(p);
                }
            }
            k.ticks(1);
        }
    }

    private static void asTheDrawsTell() {
        String[] texts = {TEXT, NO_HOUSES, ONE_HOUSE};
        for (String text : texts) {
            for (int i = 0; i < 40; i++) {
                int seed = i * 0x12345677 + 5;
                KnockLane a = Check.lane(text);
                KnockLane b = Check.lane(text);
                Check.due("drawn", a.drawn(1 + i % 60, seed), 1 + i % 60);
                goByHand(b, 1 + i % 60, seed);
                Check.due("by draws of " + seed, Check.all(a), Check.all(b));
            }
        }
    }

    private static void asManyAsAreLeft() {
        KnockLane k = Check.lane(TEXT);
        for (int i = 0; i < 16; i++) {
            k.ticks(60);
        }
        k.ticks(33);
        KnockLane b = Check.lane(TEXT);
        for (int i = 0; i < 16; i++) {
            b.ticks(60);
        }
        b.ticks(33);
        goByHand(b, 7, 99);
        Check.due("drawn(60, 99)", k.drawn(60, 99), 7);
        Check.due("TICK", k.now(0), 1000);
        Check.due("as the draws tell", Check.all(k), Check.all(b));
        Check.due("drawn(1, 99)", k.drawn(1, 99), 0);
        Check.due("undo()", k.undo(), 7);
        Check.due("TICK", k.now(0), 993);
    }

    private static int oddsByHand(KnockLane k, int p, int n, int seed) {
        int inside = 0;
        for (int i = 0; i < n; i++) {
            k.drawn(20, seed + i);
            inside += Check.person(k, p, 0) == 2 ? 1 : 0;
            k.undo();
        }
        return inside;
    }

    private static void oddsOfSeeds() {
        int some = 0;
        for (int i = 0; i < 12; i++) {
            KnockLane k = Check.lane(TEXT);
            k.drawn(1 + 4 * i, i);
            int[] seeds = {1, -7, Integer.MAX_VALUE - 3, 123456789 * i};
            for (int seed : seeds) {
                int n = 1 + (i * 5) % 30;
                int odds = k.odds(i % 5, n, seed);
                Check.due("odds", odds, oddsByHand(k, i % 5, n, seed));
                some += odds;
            }
            Check.due("odds of 30", k.odds(0, 30, 5), oddsByHand(k, 0, 30, 5));
        }
        Check.due("some were INSIDE", some > 0, true);
        KnockLane k = Check.lane(TEXT);
        String before = Check.all(k);
        k.odds(0, 30, 8);
        Check.due("nothing changed", Check.all(k), before);
        Check.due("undo()", k.undo(), KnockLane.NONE);
    }

    /** TICKS that are DRAWN end with TICK 1000, for odds() as for drawn(). */
    private static void oddsNearTheEnd() {
        KnockLane k = Check.lane(TEXT);
        for (int i = 0; i < 16; i++) {
            k.ticks(60);
        }
        k.drawn(30, 3);
        for (int p = 0; p < 5; p++) {
            int seed = 11 * p;
            Check.due("odds of 10 TICKS", k.odds(p, 25, seed), oddsByHand(k, p, 25, seed));
        }
    }
}
