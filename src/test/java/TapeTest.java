/** Promises 1 to 3 and 39: a new object, feed, end, count. */
public final class TapeTest {
    public static void main(String[] args) {
        newObject();
        feedTo940();
        endCuts();
        bytesHighestFirst();
        counts();
        Check.finish("TapeTest");
    }

    private static void newObject() {
        KnockLane x = new KnockLane();
        int[] due = {0, 0, 10, 2, 3, 0};
        for (int w = 0; w < 6; w++) {
            Check.due("new: count(" + w + ")", x.count(w), due[w]);
        }
        Check.due("new: now(0)", x.now(0), 0);
        Check.due("new: house(0, 0)", x.house(0, 0), KnockLane.NONE);
        Check.due("new: person(0, 0)", Check.person(x, 0, 0), Check.THROWN);
        Check.due("new: said(-1)", x.said(-1), KnockLane.NONE);
        Check.due("new: undo()", x.undo(), KnockLane.NONE);
        Check.due("new: fault()", x.fault(), 0);
        Check.due("new: quarter() of an empty tape", x.quarter(), 0);
        Check.due("NONE", KnockLane.NONE, -1);
    }

    private static void feedTo940() {
        KnockLane x = new KnockLane();
        for (int n = 20; n <= 940; n += 20) {
            Check.due("feed to " + n, x.feed(1, 2, 3, 4, 5), n);
        }
        Check.due("feed over 940", x.feed(1, 2, 3, 4, 5), KnockLane.NONE);
        Check.due("the tape stays", x.count(5), 940);
        Check.due("end(921)", x.end(921), true);
        Check.due("feed to 941", x.feed(0, 0, 0, 0, 0), KnockLane.NONE);
        Check.due("the tape stays", x.count(5), 921);
        Check.due("end(920)", x.end(920), true);
        Check.due("feed to 940", x.feed(0, 0, 0, 0, 0), 940);
    }

    private static void endCuts() {
        KnockLane x = new KnockLane();
        Check.due("end(1) of an empty tape", x.end(1), false);
        Check.due("end(0) of an empty tape", x.end(0), true);
        x.feed(0, 0, 0, 0, 0);
        Check.due("end(21)", x.end(21), false);
        Check.due("end(-1)", x.end(-1), false);
        Check.due("end(least)", x.end(Integer.MIN_VALUE), false);
        Check.due("nothing was cut", x.count(5), 20);
        Check.due("end(20)", x.end(20), true);
        Check.due("end(3)", x.end(3), true);
        Check.due("three are left", x.count(5), 3);
        Check.due("end(4) behind it", x.end(4), false);
        Check.due("feed behind three", x.feed(0, 0, 0, 0, 0), 23);
    }

    private static void bytesHighestFirst() {
        KnockLane x = new KnockLane();
        x.feed(0x6c616e65, 0x20313720, 0x3b656172, 0x20373b0a, 0x73746179);
        x.feed(0x20383b20, 0xffffffff, 0, 0, 0);
        x.end(23);
        Check.due("lane 17 ;ear 7;..stay 8;", x.quarter(), 3);
        Check.due("lane", x.count(2), 17);
        Check.due("ear", x.count(3), 7);
        Check.due("stay", x.count(4), 8);
        x.feed(0x20202020, 0x20202020, 0x20202020, 0x202020ff, 0);
        x.end(16);
        Check.due("a byte of 255 is no TOKEN", x.quarter(), -16);
        Check.due("its FAULT", x.fault(), 1);
    }

    private static void counts() {
        KnockLane x = Check.lane("lane 7;ear 0;stay 30;house h 1;house g 2;person a tramp 1 up kind;");
        int[] due = {2, 1, 7, 0, 30, 0};
        for (int w = 0; w < 6; w++) {
            Check.due("count(" + w + ")", x.count(w), due[w]);
        }
        Check.due("count(-1)", x.count(-1), KnockLane.NONE);
        Check.due("count(6)", x.count(6), KnockLane.NONE);
        Check.feed(x, "abcdefghijklmnopqrstuvwxyz");
        Check.due("count(5)", x.count(5), 26);
    }
}
