/** Promises 27 to 30: busiest, mean, tag, byteAt. */
public final class TellTest {
    public static void main(String[] args) {
        busiests();
        means();
        tags();
        bytes();
        Check.finish("TellTest");
    }

    private static void busiests() {
        KnockLane x = Check.lane("house h 5;person a tramp 5 stands kind;person b tramp 6 stands kind;"
            + "person c tramp 4 stands kind;stay 1;");
        Check.due("nobody OPENED", x.busiest(), KnockLane.NONE);
        x.knock(0, 0);
        x.ticks(1);
        Check.due("b", x.busiest(), 1);
        x.ticks(1);
        x.knock(0, 0);
        x.go(1, 0);
        x.ticks(3);
        Check.due("b goes up: c OPENED, too; b is the first of like ones", x.busiest(), 1);
        x.knock(0, 0);
        x.ticks(1);
        Check.due("c OPENED more often", x.busiest(), 2);
        Check.due("how often", Check.person(x, 2, 8), 2);
        Check.due("in all", x.now(6), 3);
        Check.due("without PERSONS", new KnockLane().busiest(), KnockLane.NONE);
        x = Check.lane("house h 5;person a tramp 5 stands kind;person b tramp 5 stands kind;stay 1;");
        x.knock(1, 0);
        Check.due("KNOCKING there", x.house(0, 3), 2);
        x.ticks(2);
        Check.due("a", x.busiest(), 0);
        x.knock(0, 0);
        Check.due("KNOCKING there", x.house(0, 3), 1);
        x.ticks(1);
        Check.due("a is the first of like ones", x.busiest(), 0);
        Check.due("INSIDE there", x.house(0, 4), 1);
    }

    private static void mean(String text, int above, int below) {
        KnockLane x = Check.lane(text);
        Check.due("mean(0) of " + text, Check.mean(x, 0), above);
        Check.due("mean(1) of " + text, Check.mean(x, 1), below);
    }

    private static void means() {
        String a = "person a tramp 1 up kind;";
        String b = "person b tramp 1 up kind;";
        String c = "person c tramp 1 up kind;";
        String d = "person d tramp 1 up kind;";
        mean(a, 0, 1);
        mean(a + b, 0, 1);
        mean(a + b + "knows a b;", 1, 1);
        mean(a + b + c + "knows a b;", 2, 3);
        mean(a + b + c + d + "knows a b;", 1, 2);
        mean(a + b + c + d + "knows a b;knows a c;knows a d;", 3, 2);
        mean(a + b + c + d + "knows a b;knows a c;knows a d;knows b c;", 2, 1);
        mean("house h 1;person p h 1 up kind;person q h 1 up kind;person r h 1 up kind;" + a, 3, 2);
        KnockLane x = Check.lane(a);
        Check.due("mean(2)", Check.mean(x, 2), Check.THROWN);
        Check.due("mean(-1)", Check.mean(x, -1), Check.THROWN);
        Check.due("without PERSONS", Check.mean(new KnockLane(), 0), Check.THROWN);
        Check.due("without PERSONS", Check.mean(new KnockLane(), 1), Check.THROWN);
        x = Check.lane("house h 1;");
        Check.due("without PERSONS", Check.mean(x, 0), Check.THROWN);
    }

    private static void tags() {
        KnockLane x = Check.lane("lane 20;house longname 19;house z 19;person isabella tramp 19 stands kind;"
            + "person o tramp 9 up kind;person pq z 0 down kind;");
        Check.due("tag(0)", Check.tag(x, 0), "isabella at 19 stands");
        Check.due("tag(1)", Check.tag(x, 1), "o at 9 up");
        Check.due("tag(2)", Check.tag(x, 2), "pq at 0 down");
        x.ticks(1);
        Check.due("tag(1)", Check.tag(x, 1), "o at 10 up");
        Check.due("tag(2)", Check.tag(x, 2), "pq at 0 up");
        x.knock(0, 0);
        Check.due("tag(0)", Check.tag(x, 0), "isabella knocks at longname");
        Check.due("how many bytes", x.tag(0), 27);
        x.ticks(8);
        Check.due("tag(0)", Check.tag(x, 0), "isabella in longname");
        int[] none = {-1, 3, Integer.MAX_VALUE};
        for (int p : none) {
            Check.due("tag(" + p + ")", x.tag(p), KnockLane.NONE);
        }
        Check.due("the latest TAG stays", x.byteAt(9), 'i');
        x.ticks(3);
        Check.due("the latest TAG stays", x.byteAt(9), 'i');
        Check.due("tag(0)", Check.tag(x, 0), "isabella at 19 stands");
        x = Check.lane("house z 1;person a tramp 1 stands kind;person b tramp 1 stands kind;");
        x.knock(0, 0);
        Check.due("tag(0)", Check.tag(x, 0), "a knocks at z");
        x.ticks(1);
        Check.due("tag(0)", Check.tag(x, 0), "a in z");
    }

    private static void bytes() {
        KnockLane x = Check.lane("person ab tramp 7 up kind;");
        Check.due("byteAt(0) ahead of any", x.byteAt(0), KnockLane.NONE);
        x.tag(0);
        String due = "ab at 7 up";
        for (int i = 0; i < due.length(); i++) {
            Check.due("byteAt(" + i + ")", x.byteAt(i), due.charAt(i));
        }
        Check.due("byteAt(-1)", x.byteAt(-1), KnockLane.NONE);
        Check.due("byteAt(10)", x.byteAt(10), KnockLane.NONE);
        Check.due("byteAt(most)", x.byteAt(Integer.MAX_VALUE), KnockLane.NONE);
        Check.due("byteAt(least)", x.byteAt(Integer.MIN_VALUE), KnockLane.NONE);
        x.quarter();
        Check.due("behind a quarter()", x.byteAt(1), 'b');
    }
}
