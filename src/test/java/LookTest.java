/** Promises 6 to 9: house, person, call, now. */
public final class LookTest {
    private static final String TEXT = "lane 6;house mill 1;house inn 4;house barn 1;person ann mill 1 stands kind;"
        + "person bob mill 1 up kind;person cid inn 4 down stern;person dan tramp 1 stands kind;"
        + "person eve tramp 0 up stern;knows dan cid;knows eve bob;calls bob inn;calls eve barn;calls bob barn;stay 2;";

    public static void main(String[] args) {
        KnockLane x = Check.lane(TEXT);
        houses(x);
        persons(x);
        calls(x);
        nows(x);
        knockingAndInside(x);
        Check.finish("LookTest");
    }

    private static void row(String name, int[] got, int... due) {
        for (int i = 0; i < due.length; i++) {
            Check.due(name + ", " + i + ")", got[i], due[i]);
        }
    }

    private static int[] house(KnockLane x, int h) {
        int[] row = new int[5];
        for (int w = 0; w < 5; w++) {
            row[w] = x.house(h, w);
        }
        return row;
    }

    private static int[] person(KnockLane x, int p) {
        int[] row = new int[11];
        for (int w = 0; w < 11; w++) {
            row[w] = Check.person(x, p, w);
        }
        return row;
    }

    private static int[] now(KnockLane x) {
        int[] row = new int[8];
        for (int w = 0; w < 8; w++) {
            row[w] = x.now(w);
        }
        return row;
    }

    private static void houses(KnockLane x) {
        row("house(mill", house(x, 0), 1, 3, 12, 0, 0);
        row("house(inn", house(x, 1), 4, 4, 19, 0, 0);
        row("house(barn", house(x, 2), 1, 0, 31, 0, 0);
        int[][] none = {{-1, 0}, {3, 0}, {0, -1}, {0, 5}, {6, 0}, {Integer.MAX_VALUE, 1}, {Integer.MIN_VALUE, 1}};
        for (int[] a : none) {
            Check.due("house(" + a[0] + ", " + a[1] + ")", x.house(a[0], a[1]), KnockLane.NONE);
        }
    }

    private static void persons(KnockLane x) {
        row("person(ann", person(x, 0), 0, 1, 2, -1, 0, 2, 0, 0, 0, 0, 0);
        row("person(bob", person(x, 1), 0, 1, 0, -1, 0, 17, 6, 0, 0, 0, 0);
        row("person(cid", person(x, 2), 0, 4, 1, -1, 0, 8, 0, 0, 0, 1, 1);
        row("person(dan", person(x, 3), 0, 1, 2, -1, 0, 4, 0, 0, 0, -1, 0);
        row("person(eve", person(x, 4), 0, 0, 0, -1, 0, 2, 4, 0, 0, -1, 1);
        int[][] none = {{-1, 0}, {5, 0}, {0, -1}, {0, 11}, {8, 0}, {Integer.MAX_VALUE, 1}, {0, Integer.MIN_VALUE}};
        for (int[] a : none) {
            Check.due("person(" + a[0] + ", " + a[1] + ")", Check.person(x, a[0], a[1]), Check.THROWN);
        }
    }

    private static void calls(KnockLane x) {
        int[][] due = {{1, 1}, {4, 2}, {1, 2}};
        for (int k = 0; k < 3; k++) {
            Check.due("call(" + k + ", 0)", x.call(k, 0), due[k][0]);
            Check.due("call(" + k + ", 1)", x.call(k, 1), due[k][1]);
        }
        int[][] none = {{3, 0}, {-1, 0}, {0, 2}, {0, -1}, {12, 0}, {Integer.MIN_VALUE, 0}};
        for (int[] a : none) {
            Check.due("call(" + a[0] + ", " + a[1] + ")", x.call(a[0], a[1]), KnockLane.NONE);
        }
    }

    private static void nows(KnockLane x) {
        row("now(", now(x), 0, 31, 0, 0, 7, 3, 0, 0);
        Check.due("now(-1)", x.now(-1), KnockLane.NONE);
        Check.due("now(8)", x.now(8), KnockLane.NONE);
        KnockLane known = Check.lane("house h 1;person a h 1 up kind;house g 2;");
        Check.due("a HOUSE without STRANGERS", known.now(4), 2);
        Check.due("nobody but who lives there", known.house(0, 2), 0);
        Check.due("nobody lives there: all are", known.house(1, 2), 1);
    }

    /** Dan KNOCKS at the barn, where nobody lives: all are STRANGERS there. */
    private static void knockingAndInside(KnockLane x) {
        Check.due("knock(dan, barn)", x.knock(3, 2), 0);
        row("house(barn", house(x, 2), 1, 0, 31, 8, 0);
        row("person(dan", person(x, 3), 1, 1, 2, 2, 0, 4, 0, 0, 0, -1, 0);
        row("now(", now(x), 0, 23, 8, 0, 7, 3, 0, 0);
        Check.due("ticks(1)", x.ticks(1), 1);
        // eve comes to PLACE 1 and KNOCKS at the barn as well; ann answers dan, bob (at 2) answers eve.
        row("house(barn", house(x, 2), 1, 0, 31, 0, 24);
        row("person(dan", person(x, 3), 2, 1, 2, 2, 2, 5, 0, 0, 0, -1, 0);
        row("person(eve", person(x, 4), 2, 1, 0, 2, 2, 2, 0, 0, 0, -1, 1);
        row("person(ann", person(x, 0), 0, 1, 2, -1, 0, 10, 0, 0, 1, 0, 0);
        row("person(bob", person(x, 1), 0, 2, 0, -1, 0, 17, 6, 0, 1, 0, 0);
        row("now(", now(x), 1, 7, 0, 24, 7, 2, 2, 0);
        row("house(mill", house(x, 0), 1, 3, 4, 0, 0);
    }
}
