import java.util.NoSuchElementException;

/** What the tests share: calls with the answers that are due, and texts fed as numbers. */
final class Check {
    static final int THROWN = Integer.MIN_VALUE;
    private static int wrong = 0;
    private static int asked = 0;

    private Check() {
    }

    static void due(String call, long got, long want) {
        asked++;
        if (got != want) {
            wrong++;
            System.out.println(call + " answered " + got + ", due is " + want);
        }
    }

    static void due(String call, boolean got, boolean want) {
        due(call, got ? 1 : 0, want ? 1 : 0);
    }

    static void due(String call, String got, String want) {
        asked++;
        if (!got.equals(want)) {
            wrong++;
            System.out.println(call + " answered \"" + got + "\", due is \"" + want + "\"");
        }
    }

    static void finish(String test) {
        System.out.println(test + ": " + asked + " answers, " + wrong + " not as due");
        if (wrong != 0 || asked == 0) {
            System.exit(1);
        }
    }

    /** Puts a text behind the tape; a char counts as the byte of its number. */
    static void feed(KnockLane x, String text) {
        int before = x.count(5);
        for (int i = 0; i < text.length(); i += 20) {
            int[] five = new int[5];
            for (int k = 0; k < 20; k++) {
                int b = i + k < text.length() ? text.charAt(i + k) & 255 : 0;
                five[k / 4] |= b << 24 - 8 * (k % 4);
            }
            x.feed(five[0], five[1], five[2], five[3], five[4]);
        }
        x.end(before + text.length());
    }

    static int quarter(KnockLane x, String text) {
        feed(x, text);
        return x.quarter();
    }

    static int book(KnockLane x, int lives, String text) {
        feed(x, text);
        return x.book(lives);
    }

    static int sentence(KnockLane x, String text) {
        feed(x, text);
        return x.sentence();
    }

    static int who(KnockLane x, int... bytes) {
        StringBuilder text = new StringBuilder();
        for (int b : bytes) {
            text.append((char) b);
        }
        feed(x, text.toString());
        return x.who();
    }

    static KnockLane lane(String text) {
        KnockLane x = new KnockLane();
        int lines = quarter(x, text);
        if (lines < 0) {
            due("a test's own quarter: " + text, lines, 0);
        }
        return x;
    }

    static int person(KnockLane x, int p, int what) {
        try {
            return x.person(p, what);
        } catch (NoSuchElementException e) {
            return THROWN;
        }
    }

    static int mean(KnockLane x, int what) {
        try {
            return x.mean(what);
        } catch (NoSuchElementException e) {
            return THROWN;
        }
    }

    static String tag(KnockLane x, int p) {
        int size = x.tag(p);
        StringBuilder text = new StringBuilder();
        for (int i = 0; i < size; i++) {
            text.append((char) x.byteAt(i));
        }
        return text.toString();
    }

    /** All that the face tells of QUARTER, PERSONS, CALLS and the SENTENCE. */
    static String all(KnockLane x) {
        StringBuilder text = new StringBuilder();
        for (int w = 0; w < 5; w++) {
            text.append(x.count(w)).append(' ');
        }
        for (int w = 0; w < 8; w++) {
            text.append(x.now(w)).append(' ');
        }
        for (int h = 0; h < x.count(0); h++) {
            for (int w = 0; w < 5; w++) {
                text.append(x.house(h, w)).append(' ');
            }
        }
        for (int p = 0; p < x.count(1); p++) {
            for (int w = 0; w < 11; w++) {
                text.append(x.person(p, w)).append(' ');
            }
        }
        for (int k = 0; k < x.now(5); k++) {
            text.append(x.call(k, 0)).append('-').append(x.call(k, 1)).append(' ');
        }
        text.append("said ").append(x.said(-1));
        for (int k = 0; k < 8; k++) {
            text.append(' ').append(x.said(k));
        }
        return text.toString();
    }
}
