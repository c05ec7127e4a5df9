import java.util.NoSuchElementException;

/** What the tests share: calls with the answers that are due, and texts fed as numbers. */
final class Check {
    static final int THROWN = Integer.MIN_VALUE;
    private static int wrong = 0;
    private static int asked = 0;
    private static int sentences = 0;
    private static String sentence = "";

    private Check() {
    }

    /** The words of the document that the calls from here on hold to; a wrong answer is printed with them. */
    static void says(String words) {
        sentences++;
        sentence = " [" + words + "]";
    }

    static void due(String call, long got, long want) {
        asked++;
        if (got != want) {
            wrong++;
            System.out.println(call + " answered " + got + ", due is " + want + sentence);
        }
    }

    static void due(String call, boolean got, boolean want) {
        due(call, got ? 1 : 0, want ? 1 : 0);
    }

    static void due(String call, String got, String want) {
        asked++;
        if (!got.equals(want)) {
            wrong++;
            System.out.println(call + " answered \"" + got + "\", due is \"" + want + "\"" + sentence);
        }
    }

    static void finish(String test) {
        String of = sentences == 0 ? "" : sentences + " sentences, ";
        System.out.println(test + ": " + of + asked + " answers, " + wrong + " not as due");
        if (wrong != 0 || asked == 0) {
            System.exit(1);
        }
    }

    /** Puts a text behind the tape; a char counts as the byte of its number. */
    static void feed(KnockLane x, String text) {
        int before = x.count(5);
        for (int i = 0; i < text.length(); i += 20) {
            int[] five = new int[5];
            for (int k = 0; k < 20; k++) {
                int b = i + k < text.length() ? text.charAt(i + k) & 255 : 0;
                five[k / 4] |= b << 24 - 8 * (k % 4);
            }
            x.feed(five[0], five[1], five[2], five[3], five[4]);
        }
        x.end(before + text.length());
    }

    static int quarter(KnockLane x, String text) {
        feed(x, text);
        return x.quarter();
    }

    static int book(KnockLane x, int lives, String text) {
        feed(x, text);
        return x.book(lives);
    }

    static int sentence(KnockLane x, String text) {
        feed(x, text);
        return x.sentence();
    }

    static int who(KnockLane x, int... bytes) {
        StringBuilder text = new StringBuilder();
        for (int b : bytes) {
            text.append((char) b);
        }
        feed(x, text.toString());
        return x.who();
    }

    static KnockLane lane(String text) {
        KnockLane x = new KnockLane();
        int lines = quarter(x, text);
        if (lines < 0) {
            due("a test's own quarter: " + text, lines, 0);
        }
        return x;
    }

    static void none(String call, int got) {
        due(call, got, KnockLane.NONE);
    }

    /** What one call tells for each what from 0 on. */
    static void persons(KnockLane x, int p, int... want) {
        for (int w = 0; w < want.length; w++) {
            due("person(" + p + ", " + w + ")", person(x, p, w), want[w]);
        }
    }

    static void goodQuarter(String text, int lines) {
        KnockLane x = new KnockLane();
        due("quarter() of " + text, quarter(x, text), lines);
        due("fault() of " + text, x.fault(), 0);
    }

    static void badQuarter(String text, int kind, int place) {
        KnockLane x = new KnockLane();
        due("quarter() of " + text, quarter(x, text), -1 - place);
        due("fault() of " + text, x.fault(), kind);
    }

    static void badBook(String lane, String text, int kind, int place) {
        KnockLane x = lane(lane);
        due("book(0) of " + text, book(x, 0, text), -2 - place);
        due("fault() of " + text, x.fault(), kind);
    }

    static void badSentence(String lane, String text, int kind, int place) {
        KnockLane x = lane(lane);
        due("sentence() of " + text, sentence(x, text), -1 - place);
        due("fault() of " + text, x.fault(), kind);
    }

    /** Tramps who stand at a PLACE, one for each letter. */
    static String tramps(String names, int place) {
        StringBuilder text = new StringBuilder();
        for (char name : names.toCharArray()) {
            text.append("person ").append(name).append(" tramp ").append(place).append(" stands kind;");
        }
        return text.toString();
    }

    /** Lets n TICKS go by, more than one call may take. */
    static void go(KnockLane x, int n) {
        for (int left = n; left > 0; left -= 60) {
            due("ticks", x.ticks(Math.min(60, left)), Math.min(60, left));
        }
    }

    static int person(KnockLane x, int p, int what) {
        try {
            return x.person(p, what);
        } catch (NoSuchElementException e) {
            return THROWN;
        }
    }

    static int mean(KnockLane x, int what) {
        try {
            return x.mean(what);
        } catch (NoSuchElementException e) {
            return THROWN;
        }
    }

    static String tag(KnockLane x, int p) {
        int size = x.tag(p);
        StringBuilder text = new StringBuilder();
        for (int i = 0; i < size; i++) {
            text.append((char) x.byteAt(i));
        }
        return text.toString();
    }

    /** PERSONS of whom the SENTENCE may be said, as bits. */
    static int saidBits(KnockLane x) {
        int bits = 0;
        for (int k = 0; k < x.said(KnockLane.NONE); k++) {
            bits |= 1 << x.said(k);
        }
        return bits;
    }

    /** All that the face tells, but for what undo() would bring back. */
    static String whole(KnockLane x) {
        StringBuilder text = new StringBuilder(all(x));
        text.append(" tape ").append(x.count(5)).append(" fault ").append(x.fault()).append(" those ").append(x.those());
        text.append(" ask ").append(x.ask()).append(" chain");
        for (int k = 0; k < 8; k++) {
            text.append(' ').append(x.chainAt(k));
        }
        text.append(" tag");
        for (int i = 0; i < 28; i++) {
            text.append(' ').append(x.byteAt(i));
        }
        text.append(" told");
        for (int w = 0; w < 4; w++) {
            text.append(' ').append(x.told(w));
        }
        return text.toString();
    }

    /** All that the face tells of QUARTER, PERSONS, CALLS and the SENTENCE. */
    static String all(KnockLane x) {
        StringBuilder text = new StringBuilder();
        for (int w = 0; w < 5; w++) {
            text.append(x.count(w)).append(' ');
        }
        for (int w = 0; w < 8; w++) {
            text.append(x.now(w)).append(' ');
        }
        for (int h = 0; h < x.count(0); h++) {
            for (int w = 0; w < 5; w++) {
                text.append(x.house(h, w)).append(' ');
            }
        }
        for (int p = 0; p < x.count(1); p++) {
            for (int w = 0; w < 11; w++) {
                text.append(x.person(p, w)).append(' ');
            }
        }
        for (int k = 0; k < x.now(5); k++) {
            text.append(x.call(k, 0)).append('-').append(x.call(k, 1)).append(' ');
        }
        text.append("said ").append(x.said(-1));
        for (int k = 0; k < 8; k++) {
            text.append(' ').append(x.said(k));
        }
        return text.toString();
    }
}
