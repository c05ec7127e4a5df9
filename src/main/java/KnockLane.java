import java.util.NoSuchElementException;

/** A lane whose doors are opened by strangers alone; the document's promises say what each call answers. */
public final class KnockLane {
    public static final int NONE = -1;

    private static final int HOUSES = 6;
    private static final int PERSONS = 8;
    private static final int CALLS = 12;
    private static final int LINES = 40;
    private static final int ONES = 20;
    private static final int WITHIN = 8;
    private static final int UNDOS = 8;

    private static final int PLACES_UNTOLD = 10;
    private static final int EAR_UNTOLD = 2;
    private static final int STAY_UNTOLD = 3;

    private static final int TAPE_BYTES = 940;
    private static final int FEED_BYTES = 20;
    private static final int QUARTER_BYTES = 900;
    private static final int BOOK_BYTES = 400;
    private static final int SENTENCE_BYTES = 200;

    private static final int LAST_TICK = 1000;
    private static final int TICKS_AT_ONCE = 60;
    private static final int TICKS_AHEAD = 300;
    private static final int ODDS_TICKS = 20;
    private static final int ODDS_SEEDS = 30;
    private static final int WHO_PAIRS = 6;

    private static final int IN_LANE = 0;
    private static final int KNOCKING = 1;
    private static final int INSIDE = 2;

    private static final int UP = 0;
    private static final int DOWN = 1;
    private static final int WAYS = 3;

    private static final int END = 0;
    private static final int WORD = 1;
    private static final int NAME = 2;
    private static final int NUMBER = 3;
    private static final int SIGN = 4;
    private static final int NO_TOKEN = 5;

    private static final int CANNOT_COME = 1;
    private static final int BAD_NUMBER = 2;
    private static final int BAD_NAME = 3;
    private static final int TOO_MANY = 4;

    private static final String QUARTER_WORDS = "lane house person tramp knows calls ear stay up down stands kind stern";
    private static final String BOOK_WORDS = "knocks goes quits meets tick";
    private static final String SENTENCE_WORDS = "or and not walking knocking inside of place known waited number";

    private static final int W_LANE = 0;
    private static final int W_HOUSE = 1;
    private static final int W_PERSON = 2;
    private static final int W_TRAMP = 3;
    private static final int W_KNOWS = 4;
    private static final int W_CALLS = 5;
    private static final int W_EAR = 6;
    private static final int W_STAY = 7;
    private static final int W_UP = 8;
    private static final int W_STANDS = 10;
    private static final int W_KIND = 11;
    private static final int W_STERN = 12;
    private static final int W_KNOCKS = 13;
    private static final int W_GOES = 14;
    private static final int W_QUITS = 15;
    private static final int W_MEETS = 16;
    private static final int W_TICK = 17;
    private static final int W_OR = 18;
    private static final int W_AND = 19;
    private static final int W_NOT = 20;
    private static final int W_WALKING = 21;
    private static final int W_KNOCKING = 22;
    private static final int W_INSIDE = 23;
    private static final int W_OF = 24;
    private static final int W_PLACE = 25;
    private static final int W_KNOWN = 26;
    private static final int W_WAITED = 27;
    private static final int W_NUMBER = 28;
    private static final int WORDS = 29;

    private static final int FIVE_BITS = 31;
    private static final int BEFORE_A = 96;

    private final Tape tape = new Tape();
    private final Street here = new Street();
    private final Street draft = new Street();
    private final Street firstImage = new Street();
    private final Street secondImage = new Street();
    private final Past past = new Past(here.quarter);
    private final Scene ahead = new Scene(here.quarter);
    private final QuarterReader quarterReader = new QuarterReader(tape, draft);
    private final Book bookNow = new Book(tape, here.quarter);
    private final Matching matching = new Matching();
    private final Chain lastChain = new Chain();
    private final Label label = new Label(tape.words);
    private int lastFault;
    private int lastThose = NONE;
    private int lastAsk = NONE;

    public KnockLane() {
        // All that any call needs is made by the fields above, once.
    }

    public int feed(int a, int b, int c, int d, int e) {
        if (tape.size + FEED_BYTES > TAPE_BYTES) {
            return NONE;
        }
        tape.addFour(a);
        tape.addFour(b);
        tape.addFour(c);
        tape.addFour(d);
        tape.addFour(e);
        return tape.size;
    }

    public boolean end(int n) {
        if (n < 0 || n > tape.size) {
            return false;
        }
        tape.size = n;
        return true;
    }

    public int quarter() {
        int lines = quarterReader.readAll();
        finishReading();
        if (lines == NONE) {
            return -1 - tape.faultPlace;
        }
        draft.saying.clear();
        here.copyFrom(draft);
        past.forget();
        return lines;
    }

    public int fault() {
        return lastFault;
    }

    public int house(int h, int what) {
        Scene scene = here.scene;
        if (!here.quarter.hasHouse(h)) {
            return NONE;
        }
        switch (what) {
            case 0:
                return here.quarter.placeOf(h);
            case 1:
                return here.quarter.livingIn(h);
            case 2:
                return scene.strangersOf(h);
            case 3:
                return scene.thoseAt(h, KNOCKING);
            case 4:
                return scene.thoseAt(h, INSIDE);
            default:
                return NONE;
        }
    }

    public int person(int p, int what) throws NoSuchElementException {
        if (!here.quarter.hasPerson(p) || what < 0 || what > 10) {
            throw new NoSuchElementException();
        }
        return here.scene.detail(p, what);
    }

    public int call(int k, int what) {
        Scene scene = here.scene;
        if (k < 0 || k >= scene.callCount || k >= CALLS) {
            return NONE;
        }
        switch (what) {
            case 0:
                return scene.callPerson[k];
            case 1:
                return scene.callHouse[k];
            default:
                return NONE;
        }
    }

    public int now(int what) {
        Scene scene = here.scene;
        switch (what) {
            case 0:
                return scene.tick;
            case 1:
                return scene.thoseWhoAre(IN_LANE);
            case 2:
                return scene.thoseWhoAre(KNOCKING);
            case 3:
                return scene.thoseWhoAre(INSIDE);
            case 4:
                return scene.housesWithStrangers();
            case 5:
                return scene.callCount;
            case 6:
                return scene.openedInAll();
            case 7:
                return scene.shut;
            default:
                return NONE;
        }
    }

    public int knock(int p, int h) {
        past.note(here.scene);
        return past.keepIfDone(here.scene.tryKnock(p, h));
    }

    public int go(int p, int way) {
        past.note(here.scene);
        return past.keepIfDone(here.scene.tryGo(p, way));
    }

    public int quit(int p) {
        past.note(here.scene);
        return past.keepIfDone(here.scene.tryQuit(p));
    }

    public int meets(int p, int q) {
        past.note(here.scene);
        return past.keepIfDone(here.scene.tryMeet(p, q));
    }

    public int calls(int p, int h) {
        past.note(here.scene);
        return past.keepIfDone(here.scene.tryCall(p, h));
    }

    public int ticks(int n) {
        if (n < 1 || n > TICKS_AT_ONCE) {
            return NONE;
        }
        past.note(here.scene);
        return past.keepIfAny(here.scene.letTicksGo(n));
    }

    public int undo() {
        return past.bringBack(here.scene);
    }

    public int answer(int p) {
        if (!here.scene.isKnocking(p)) {
            return NONE;
        }
        return here.scene.answererOf(p, 0);
    }

    public int most() {
        lastThose = matching.greatestSet(here.scene);
        return Integer.bitCount(lastThose);
    }

    public int those() {
        return lastThose;
    }

    public int chain(int p, int q) {
        if (!here.quarter.hasPerson(p) || !here.quarter.hasPerson(q)) {
            return NONE;
        }
        return lastChain.find(here.scene, p, q);
    }

    public int chainAt(int k) {
        return lastChain.personAt(k);
    }

    public int who() {
        int found = whoByPairs();
        tape.size = 0;
        if (found > 0) {
            lastAsk = here.scene.bestToAsk(found);
        }
        return found;
    }

    public int ask() {
        return lastAsk;
    }

    public int opens(int p) {
        if (!here.scene.isKnocking(p)) {
            return NONE;
        }
        ahead.copyFrom(here.scene);
        for (int t = 1; t <= TICKS_AHEAD && ahead.isKnocking(p); t++) {
            ahead.letTickGo();
            if (ahead.isInside(p)) {
                return t;
            }
        }
        return NONE;
    }

    public int known() {
        ahead.copyFrom(here.scene);
        for (int t = 0; t <= TICKS_AHEAD; t++) {
            if (ahead.housesWithStrangers() == 0) {
                return t;
            }
            ahead.letTickGo();
        }
        return NONE;
    }

    public int meet(int p, int q) {
        if (p == q || !here.quarter.hasPerson(p) || !here.quarter.hasPerson(q)) {
            return NONE;
        }
        ahead.copyFrom(here.scene);
        for (int t = 0; t <= TICKS_AHEAD; t++) {
            if (ahead.areTogether(p, q)) {
                return t;
            }
            ahead.letTickGo();
        }
        return NONE;
    }

    public int busiest() {
        return here.scene.whoOpenedMost();
    }

    public int mean(int what) throws NoSuchElementException {
        int persons = here.quarter.persons;
        if (persons < 1 || what < 0 || what > 1) {
            throw new NoSuchElementException();
        }
        int above = here.scene.knownInAll();
        int divisor = commonDivisor(above, persons);
        if (divisor < 1) {
            return NONE;
        }
        return what == 0 ? above / divisor : persons / divisor;
    }

    public int tag(int p) {
        if (!here.quarter.hasPerson(p)) {
            return NONE;
        }
        label.write(here.scene, p);
        return label.size;
    }

    public int byteAt(int i) {
        return label.signAt(i);
    }

    public int drawn(int n, int seed) {
        if (n < 1 || n > TICKS_AT_ONCE) {
            return NONE;
        }
        past.note(here.scene);
        return past.keepIfAny(here.scene.letDrawnTicksGo(n, seed));
    }

    public int odds(int p, int n, int seed) {
        if (!here.quarter.hasPerson(p) || n < 1 || n > ODDS_SEEDS) {
            return NONE;
        }
        int inside = 0;
        for (int i = 0; i < n; i++) {
            ahead.copyFrom(here.scene);
            ahead.letDrawnTicksGo(ODDS_TICKS, seed + i);
            if (ahead.isInside(p)) {
                inside++;
            }
        }
        return inside;
    }

    public int book(int lives) {
        if (lives != 0 && lives != 1) {
            return -1000;
        }
        boolean readable = bookNow.readAll();
        finishReading();
        if (!readable) {
            return -2 - tape.faultPlace;
        }
        if (lives == 0) {
            ahead.copyFrom(here.scene);
            bookNow.live(ahead);
        } else {
            past.note(here.scene);
            bookNow.live(here.scene);
            past.keepIfAny(bookNow.lived);
        }
        return bookNow.why == 0 ? NONE : bookNow.lived;
    }

    public int told(int what) {
        return bookNow.tell(what);
    }

    public int sentence() {
        boolean readable = draft.saying.readAll(tape, here.quarter);
        finishReading();
        if (!readable) {
            return -1 - tape.faultPlace;
        }
        here.saying.copyFrom(draft.saying);
        return here.saying.ones;
    }

    public int said(int k) {
        if (here.saying.ones == 0) {
            return NONE;
        }
        int persons = here.saying.trueOf(here.scene);
        return k == NONE ? Integer.bitCount(persons) : bitInOrder(persons, k);
    }

    public boolean image(int k) {
        Street kept = imageOf(k);
        if (kept == null) {
            return false;
        }
        kept.copyFrom(here);
        kept.isKept = true;
        return true;
    }

    public boolean restore(int k) {
        Street kept = imageOf(k);
        if (kept == null || !kept.isKept) {
            return false;
        }
        here.copyFrom(kept);
        past.forget();
        return true;
    }

    public int count(int what) {
        Quarter quarter = here.quarter;
        switch (what) {
            case 0:
                return quarter.houses;
            case 1:
                return quarter.persons;
            case 2:
                return quarter.places;
            case 3:
                return quarter.ear;
            case 4:
                return quarter.stay;
            case 5:
                return tape.size;
            default:
                return NONE;
        }
    }

    private Street imageOf(int k) {
        if (k == 0) {
            return firstImage;
        }
        return k == 1 ? secondImage : null;
    }

    private void finishReading() {
        lastFault = tape.faultKind;
        tape.size = 0;
    }

    private int whoByPairs() {
        if (tape.size < 2 || tape.size > 2 * WHO_PAIRS || tape.size % 2 != 0) {
            return NONE;
        }
        int yes = 0;
        int no = 0;
        for (int i = 0; i < tape.size; i += 2) {
            int p = tape.byteOf(i);
            int knows = tape.byteOf(i + 1);
            if (!here.quarter.hasPerson(p) || knows < 0 || knows > 1) {
                return NONE;
            }
            if (knows == 1) {
                yes |= 1 << p;
            } else {
                no |= 1 << p;
            }
        }
        return here.scene.whomJustTheseKnow(yes, no);
    }

    private static int commonDivisor(int a, int b) {
        for (int d = b; d > 1; d--) {
            if (a % d == 0 && b % d == 0) {
                return d;
            }
        }
        return 1;
    }

    private static int bitInOrder(int bits, int k) {
        int ahead = 0;
        for (int p = 0; p < PERSONS; p++) {
            if (hasBit(bits, p)) {
                if (ahead == k) {
                    return p;
                }
                ahead++;
            }
        }
        return NONE;
    }

    private static boolean hasBit(int bits, int i) {
        return (bits >> i & 1) == 1;
    }

    /** The bytes that were fed, and the TOKENS along them. */
    private static final class Tape {
        final long[] words = codesOfWords();
        int size;
        int faultKind;
        int faultPlace;
        int kind;
        int number;
        long name;
        private final byte[] bytes = new byte[TAPE_BYTES];
        private int mostBytes;
        private int next;
        private int begin;

        private static long[] codesOfWords() {
            long[] codes = new long[WORDS];
            int told = fillCodes(codes, 0, QUARTER_WORDS);
            told = fillCodes(codes, told, BOOK_WORDS);
            fillCodes(codes, told, SENTENCE_WORDS);
            return codes;
        }

        private static int fillCodes(long[] codes, int from, String text) {
            int k = from;
            long code = 0;
            for (int i = 0; i <= text.length() && k < codes.length; i++) {
                if (i == text.length() || text.charAt(i) == ' ') {
                    codes[k] = code;
                    k++;
                    code = 0;
                } else {
                    code = code << 5 | text.charAt(i) - BEFORE_A;
                }
            }
            return k;
        }

        void addFour(int four) {
            for (int shift = 24; shift >= 0 && size < TAPE_BYTES; shift -= 8) {
                bytes[size] = (byte) (four >> shift);
                size++;
            }
        }

        int byteOf(int i) {
            return i >= 0 && i < size && i < TAPE_BYTES ? bytes[i] & 255 : NONE;
        }

        void startReading(int most) {
            mostBytes = most;
            next = 0;
            faultKind = 0;
            faultPlace = 0;
            take();
        }

        void take() {
            while (next < size && isBlank(byteOf(next))) {
                next++;
            }
            begin = next;
            number = byteOf(next);
            if (size > mostBytes && next >= mostBytes) {
                // A text that is too long is refused where it should have ended, whatever stands there.
                begin = mostBytes;
                kind = NO_TOKEN;
            } else if (next >= size) {
                kind = END;
            } else if (isSign(number)) {
                kind = SIGN;
                next++;
            } else {
                takeRun();
                nameWord();
            }
        }

        /** Bytes that belong to no TOKEN make an empty run, which is none either. */
        private void takeRun() {
            int letters = 0;
            int digits = 0;
            name = 0;
            number = 0;
            for (; next < size && next < TAPE_BYTES; next++) {
                int b = bytes[next];
                if (b >= 'a' && b <= 'z') {
                    letters++;
                    name = name << 5 | b - BEFORE_A;
                } else if (b >= '0' && b <= '9') {
                    digits++;
                    number = number * 10 + b - '0';
                } else {
                    break;
                }
            }
            if (digits == 0 && letters >= 1 && letters <= 8) {
                kind = NAME;
            } else {
                kind = letters == 0 && digits >= 1 && digits <= 3 ? NUMBER : NO_TOKEN;
            }
        }

        private void nameWord() {
            for (int w = 0; w < WORDS && kind == NAME; w++) {
                if (words[w] == name) {
                    kind = WORD;
                    number = w;
                }
            }
        }

        private static boolean isBlank(int b) {
            return b == ' ' || b == '\n';
        }

        private static boolean isSign(int b) {
            return b == ';' || b == '<' || b == '=' || b == '>' || b == '(' || b == ')';
        }

        /** The FAULT is at the TOKEN taken last. */
        int refuse(int fault) {
            faultKind = fault;
            faultPlace = begin;
            return NONE;
        }

        boolean isEnd() {
            return kind == END;
        }

        boolean isWord(int w) {
            return kind == WORD && number == w;
        }

        boolean isSignOf(char sign) {
            return kind == SIGN && number == sign;
        }

        boolean takeLineEnd() {
            take();
            if (!isSignOf(';')) {
                refuse(CANNOT_COME);
                return false;
            }
            take();
            return true;
        }

        int takeCompare() {
            take();
            if (isSignOf('<') || isSignOf('=') || isSignOf('>')) {
                return number;
            }
            return refuse(CANNOT_COME);
        }

        int takeNumber(int least, int greatest) {
            take();
            if (kind != NUMBER) {
                return refuse(CANNOT_COME);
            }
            return number < least || number > greatest ? refuse(BAD_NUMBER) : number;
        }

        /** One of neighbouring words, numbered from the first of them. */
        int takeOneOf(int first, int last) {
            take();
            if (kind != WORD || number < first || number > last) {
                return refuse(CANNOT_COME);
            }
            return number - first;
        }

        /** A NAME not told so far; 0, which no NAME is, for a FAULT. */
        long takeNewName(Quarter quarter) {
            take();
            if (kind != NAME) {
                refuse(CANNOT_COME);
                return 0;
            }
            if (quarter.findHouse(name) != NONE || quarter.findPerson(name) != NONE) {
                refuse(BAD_NAME);
                return 0;
            }
            return name;
        }

        int takeHouse(Quarter quarter) {
            take();
            return houseHere(quarter);
        }

        int houseHere(Quarter quarter) {
            if (kind != NAME) {
                return refuse(CANNOT_COME);
            }
            int h = quarter.findHouse(name);
            return h == NONE ? refuse(BAD_NAME) : h;
        }

        int takePerson(Quarter quarter) {
            take();
            return personHere(quarter);
        }

        int personHere(Quarter quarter) {
            if (kind != NAME) {
                return refuse(CANNOT_COME);
            }
            int p = quarter.findPerson(name);
            return p == NONE ? refuse(BAD_NAME) : p;
        }
    }

    /** What a text tells once for all: it stays until another QUARTER comes. */
    private static final class Quarter {
        int places = PLACES_UNTOLD;
        int ear = EAR_UNTOLD;
        int stay = STAY_UNTOLD;
        int houses;
        int persons;
        private final int[] housePlace = new int[HOUSES];
        private final int[] living = new int[HOUSES];
        private final long[] houseName = new long[HOUSES];
        private final int[] home = new int[PERSONS];
        private final int[] stern = new int[PERSONS];
        private final long[] personName = new long[PERSONS];

        void clear() {
            places = PLACES_UNTOLD;
            ear = EAR_UNTOLD;
            stay = STAY_UNTOLD;
            houses = 0;
            persons = 0;
        }

        void copyFrom(Quarter other) {
            places = other.places;
            ear = other.ear;
            stay = other.stay;
            houses = other.houses;
            persons = other.persons;
            System.arraycopy(other.housePlace, 0, housePlace, 0, HOUSES);
            System.arraycopy(other.living, 0, living, 0, HOUSES);
            System.arraycopy(other.houseName, 0, houseName, 0, HOUSES);
            System.arraycopy(other.home, 0, home, 0, PERSONS);
            System.arraycopy(other.stern, 0, stern, 0, PERSONS);
            System.arraycopy(other.personName, 0, personName, 0, PERSONS);
        }

        void addHouse(long name, int place) {
            if (houses < HOUSES) {
                houseName[houses] = name;
                housePlace[houses] = place;
                living[houses] = 0;
                houses++;
            }
        }

        void addPerson(long name, int h, int mood) {
            if (persons < PERSONS) {
                personName[persons] = name;
                home[persons] = h;
                stern[persons] = mood;
                if (hasHouse(h)) {
                    living[h] |= 1 << persons;
                }
                persons++;
            }
        }

        boolean hasHouse(int h) {
            return h >= 0 && h < houses && h < HOUSES;
        }

        boolean hasPerson(int p) {
            return p >= 0 && p < persons && p < PERSONS;
        }

        int findHouse(long name) {
            for (int h = 0; h < houses && h < HOUSES; h++) {
                if (houseName[h] == name) {
                    return h;
                }
            }
            return NONE;
        }

        int findPerson(long name) {
            for (int p = 0; p < persons && p < PERSONS; p++) {
                if (personName[p] == name) {
                    return p;
                }
            }
            return NONE;
        }

        int placeOf(int h) {
            return hasHouse(h) ? housePlace[h] : NONE;
        }

        int livingIn(int h) {
            return h >= 0 && h < houses && h < HOUSES ? living[h] : 0;
        }

        long nameOfHouse(int h) {
            return hasHouse(h) ? houseName[h] : 0;
        }

        int homeOf(int p) {
            return hasPerson(p) ? home[p] : NONE;
        }

        boolean isStern(int p) {
            return hasPerson(p) && stern[p] == 1;
        }

        long nameOfPerson(int p) {
            return hasPerson(p) ? personName[p] : 0;
        }
    }

    /** All that acts and TICKS change, in a QUARTER that it does not own. */
    private static final class Scene {
        final Quarter quarter;
        int tick;
        int shut;
        int callCount;
        final int[] callPerson = new int[CALLS];
        final int[] callHouse = new int[CALLS];
        private final int[] how = new int[PERSONS];
        private final int[] place = new int[PERSONS];
        private final int[] way = new int[PERSONS];
        private final int[] door = new int[PERSONS];
        private final int[] left = new int[PERSONS];
        private final int[] knows = new int[PERSONS];
        private final int[] waited = new int[PERSONS];
        private final int[] opened = new int[PERSONS];
        private int drawn;

        Scene(Quarter quarter) {
            this.quarter = quarter;
        }

        void clear() {
            tick = 0;
            shut = 0;
            callCount = 0;
        }

        void copyFrom(Scene other) {
            tick = other.tick;
            shut = other.shut;
            callCount = other.callCount;
            System.arraycopy(other.callPerson, 0, callPerson, 0, CALLS);
            System.arraycopy(other.callHouse, 0, callHouse, 0, CALLS);
            System.arraycopy(other.how, 0, how, 0, PERSONS);
            System.arraycopy(other.place, 0, place, 0, PERSONS);
            System.arraycopy(other.way, 0, way, 0, PERSONS);
            System.arraycopy(other.door, 0, door, 0, PERSONS);
            System.arraycopy(other.left, 0, left, 0, PERSONS);
            System.arraycopy(other.knows, 0, knows, 0, PERSONS);
            System.arraycopy(other.waited, 0, waited, 0, PERSONS);
            System.arraycopy(other.opened, 0, opened, 0, PERSONS);
        }

        /** The PERSON told last comes into the LANE; he KNOWS those of his HOUSE from the beginning. */
        void addPerson(int p, int at, int wayFirst) {
            if (!quarter.hasPerson(p)) {
                return;
            }
            how[p] = IN_LANE;
            place[p] = at;
            way[p] = wayFirst;
            door[p] = NONE;
            left[p] = 0;
            knows[p] = 0;
            waited[p] = 0;
            opened[p] = 0;
            makeKnown(p, quarter.livingIn(quarter.homeOf(p)) & ~(1 << p));
        }

        int detail(int p, int what) {
            if (!quarter.hasPerson(p)) {
                return NONE;
            }
            switch (what) {
                case 0:
                    return how[p];
                case 1:
                    return place[p];
                case 2:
                    return way[p];
                case 3:
                    return door[p];
                case 4:
                    return left[p];
                case 5:
                    return knows[p];
                case 6:
                    return housesToCallAt(p);
                case 7:
                    return waited[p];
                case 8:
                    return opened[p];
                case 9:
                    return quarter.homeOf(p);
                case 10:
                    return quarter.isStern(p) ? 1 : 0;
                default:
                    return NONE;
            }
        }

        boolean isInLane(int p) {
            return quarter.hasPerson(p) && how[p] == IN_LANE;
        }

        boolean isKnocking(int p) {
            return quarter.hasPerson(p) && how[p] == KNOCKING;
        }

        boolean isInside(int p) {
            return quarter.hasPerson(p) && how[p] == INSIDE;
        }

        boolean areTogether(int p, int q) {
            return isInLane(p) && isInLane(q) && place[p] == place[q];
        }

        boolean doesKnow(int p, int q) {
            return quarter.hasPerson(p) && quarter.hasPerson(q) && hasBit(knows[p], q);
        }

        int knownTo(int p) {
            return quarter.hasPerson(p) ? knows[p] : 0;
        }

        /** Nobody KNOWS himself, so who lives there is looked at beside those whom he KNOWS. */
        int strangersOf(int h) {
            int living = quarter.livingIn(h);
            int bits = 0;
            for (int p = 0; p < PERSONS && p < quarter.persons; p++) {
                if (((knows[p] | 1 << p) & living) == 0) {
                    bits |= 1 << p;
                }
            }
            return bits;
        }

        int housesWithStrangers() {
            int bits = 0;
            for (int h = 0; h < quarter.houses; h++) {
                if (strangersOf(h) != 0) {
                    bits |= 1 << h;
                }
            }
            return bits;
        }

        int thoseWhoAre(int state) {
            int bits = 0;
            for (int p = 0; p < PERSONS && p < quarter.persons; p++) {
                if (how[p] == state) {
                    bits |= 1 << p;
                }
            }
            return bits;
        }

        int thoseAt(int h, int state) {
            int bits = 0;
            for (int p = 0; p < PERSONS && p < quarter.persons; p++) {
                if (how[p] == state && door[p] == h) {
                    bits |= 1 << p;
                }
            }
            return bits;
        }

        int housesToCallAt(int p) {
            int bits = 0;
            for (int k = 0; k < callCount && k < CALLS; k++) {
                if (callPerson[k] == p) {
                    bits |= 1 << callHouse[k];
                }
            }
            return bits;
        }

        int openedInAll() {
            int sum = 0;
            for (int p = 0; p < PERSONS && p < quarter.persons; p++) {
                sum += opened[p];
            }
            return sum;
        }

        int knownInAll() {
            int sum = 0;
            for (int p = 0; p < PERSONS && p < quarter.persons; p++) {
                sum += Integer.bitCount(knows[p]);
            }
            return sum;
        }

        int whoOpenedMost() {
            int best = NONE;
            int bestTimes = 0;
            for (int p = 0; p < PERSONS && p < quarter.persons; p++) {
                if (opened[p] > bestTimes) {
                    best = p;
                    bestTimes = opened[p];
                }
            }
            return best;
        }

        int tryKnock(int p, int h) {
            if (!quarter.hasPerson(p) || !quarter.hasHouse(h)) {
                return NONE;
            }
            if (how[p] != IN_LANE) {
                return 1;
            }
            if (quarter.placeOf(h) != place[p]) {
                return 2;
            }
            if (quarter.homeOf(p) == h) {
                return 3;
            }
            how[p] = KNOCKING;
            door[p] = h;
            return 0;
        }

        int tryGo(int p, int newWay) {
            if (!quarter.hasPerson(p) || newWay < 0 || newWay >= WAYS) {
                return NONE;
            }
            if (how[p] != IN_LANE) {
                return 1;
            }
            if (way[p] == newWay) {
                return 2;
            }
            way[p] = newWay;
            return 0;
        }

        int tryQuit(int p) {
            if (!quarter.hasPerson(p)) {
                return NONE;
            }
            if (how[p] != KNOCKING) {
                return 1;
            }
            putInLane(p);
            return 0;
        }

        int tryMeet(int p, int q) {
            if (p == q || !quarter.hasPerson(p) || !quarter.hasPerson(q)) {
                return NONE;
            }
            if (doesKnow(p, q)) {
                return 1;
            }
            makeKnown(p, 1 << q);
            return 0;
        }

        int tryCall(int p, int h) {
            if (!quarter.hasPerson(p) || !quarter.hasHouse(h)) {
                return NONE;
            }
            if (quarter.homeOf(p) == h) {
                return 1;
            }
            if (hasBit(housesToCallAt(p), h)) {
                return 2;
            }
            if (callCount < 0 || callCount >= CALLS) {
                return 3;
            }
            callPerson[callCount] = p;
            callHouse[callCount] = h;
            callCount++;
            return 0;
        }

        private void putInLane(int p) {
            if (quarter.hasPerson(p)) {
                how[p] = IN_LANE;
                door[p] = NONE;
                left[p] = 0;
            }
        }

        private void makeKnown(int p, int others) {
            if (!quarter.hasPerson(p)) {
                return;
            }
            knows[p] |= others;
            for (int q = 0; q < PERSONS && q < quarter.persons; q++) {
                if (hasBit(others, q)) {
                    knows[q] |= 1 << p;
                }
            }
        }

        int letTicksGo(int n) {
            int gone = 0;
            for (; gone < n && tick < LAST_TICK; gone++) {
                letTickGo();
            }
            return gone;
        }

        int letDrawnTicksGo(int n, int seed) {
            drawn = seed;
            int gone = 0;
            for (; gone < n && tick < LAST_TICK; gone++) {
                for (int p = 0; p < quarter.persons; p++) {
                    actByDraw(p);
                }
                letTickGo();
            }
            return gone;
        }

        private void actByDraw(int p) {
            switch (draw(8)) {
                case 0:
                    if (quarter.houses > 0) {
                        tryKnock(p, draw(quarter.houses));
                    }
                    break;
                case 1:
                    tryGo(p, draw(WAYS));
                    break;
                case 2:
                    if (quarter.houses > 0) {
                        tryCall(p, draw(quarter.houses));
                    }
                    break;
                case 3:
                    tryQuit(p);
                    break;
                default:
                    break;
            }
        }

        private int draw(int n) {
            drawn = drawn * 1103515245 + 12345;
            return n > 0 ? (drawn >>> 8) % n : 0;
        }

        /** One TICK, past the last one too: those who look ahead are not bound by it. */
        void letTickGo() {
            int persons = Math.min(PERSONS, quarter.persons);
            for (int p = 0; p < persons; p++) {
                if (how[p] == INSIDE) {
                    stayOn(p);
                }
            }
            for (int p = 0; p < persons; p++) {
                if (how[p] == IN_LANE) {
                    walkOn(p);
                }
            }
            for (int p = 0; p < persons; p++) {
                if (how[p] == IN_LANE) {
                    callAtDoor(p);
                }
            }
            int busy = 0;
            for (int p = 0; p < persons; p++) {
                if (how[p] == KNOCKING) {
                    int who = answererOf(p, busy);
                    if (who == NONE) {
                        waited[p]++;
                    } else {
                        busy |= 1 << who;
                        openDoor(who, p);
                    }
                }
            }
            tick++;
        }

        private void stayOn(int p) {
            left[p]--;
            if (left[p] <= 0) {
                putInLane(p);
            }
        }

        private void walkOn(int p) {
            if (way[p] != UP && way[p] != DOWN) {
                return;
            }
            int next = way[p] == UP ? place[p] + 1 : place[p] - 1;
            if (next < 0 || next >= quarter.places) {
                way[p] = way[p] == UP ? DOWN : UP;
            } else {
                place[p] = next;
            }
        }

        private void callAtDoor(int p) {
            for (int k = 0; k < callCount && k < CALLS; k++) {
                if (callPerson[k] == p && quarter.placeOf(callHouse[k]) == place[p]) {
                    how[p] = KNOCKING;
                    door[p] = callHouse[k];
                    dropCall(k);
                    return;
                }
            }
        }

        private void dropCall(int k) {
            for (int i = k; i >= 0 && i + 1 < callCount && i + 1 < CALLS; i++) {
                callPerson[i] = callPerson[i + 1];
                callHouse[i] = callHouse[i + 1];
            }
            callCount--;
        }

        private void openDoor(int who, int p) {
            if (!quarter.hasPerson(who) || !quarter.hasPerson(p)) {
                return;
            }
            int known = 1 << p | quarter.livingIn(door[p]);
            opened[who]++;
            if (quarter.isStern(who) && doesKnow(who, p)) {
                putInLane(p);
                shut++;
            } else {
                how[p] = INSIDE;
                left[p] = quarter.stay;
            }
            makeKnown(who, known);
        }

        int answererOf(int p, int busy) {
            int could = thoseWhoCouldAnswer(p) & ~busy;
            if (could == 0 || !quarter.hasPerson(p)) {
                return NONE;
            }
            int best = NONE;
            int bestFar = 0;
            for (int q = 0; q < PERSONS && q < quarter.persons; q++) {
                int far = Math.abs(place[q] - place[p]);
                if (hasBit(could, q) && (best == NONE || far < bestFar)) {
                    best = q;
                    bestFar = far;
                }
            }
            return best;
        }

        /** Who KNOCKS is at the HOUSE's PLACE, so his own tells how far it is. */
        int thoseWhoCouldAnswer(int p) {
            if (!quarter.hasPerson(p) || how[p] != KNOCKING) {
                return 0;
            }
            int near = 0;
            for (int q = 0; q < PERSONS && q < quarter.persons; q++) {
                if (how[q] == IN_LANE && Math.abs(place[q] - place[p]) <= quarter.ear) {
                    near |= 1 << q;
                }
            }
            return near == 0 ? 0 : near & strangersOf(door[p]);
        }

        int whomJustTheseKnow(int yes, int no) {
            if ((yes & no) != 0) {
                return 0;
            }
            int bits = 0;
            for (int p = 0; p < PERSONS && p < quarter.persons; p++) {
                if (!hasBit(yes | no, p) && (knows[p] & (yes | no)) == yes) {
                    bits |= 1 << p;
                }
            }
            return bits;
        }

        int bestToAsk(int these) {
            int best = NONE;
            int bestLeft = 0;
            for (int p = 0; p < PERSONS && p < quarter.persons; p++) {
                int self = these & 1 << p;
                int yes = Integer.bitCount(these & knows[p]);
                int no = Integer.bitCount(these & ~knows[p] & ~self);
                int most = Math.max(Math.max(yes, no), Integer.bitCount(self));
                if (best == NONE || most < bestLeft) {
                    best = p;
                    bestLeft = most;
                }
            }
            return best;
        }
    }

    /** What an image keeps: a QUARTER, all that is so in it, and the SENTENCE. */
    private static final class Street {
        final Quarter quarter = new Quarter();
        final Scene scene = new Scene(quarter);
        final Saying saying = new Saying();
        boolean isKept;

        void copyFrom(Street other) {
            quarter.copyFrom(other.quarter);
            scene.copyFrom(other.scene);
            saying.copyFrom(other.saying);
        }
    }

    /** The scenes ahead of the latest acts, in a ring with one room more, for an act that is tried yet. */
    private static final class Past {
        private static final int ROOMS = UNDOS + 1;
        private final Scene[] scenes = new Scene[ROOMS];
        private int first;
        private int size;

        Past(Quarter quarter) {
            for (int i = 0; i < ROOMS; i++) {
                scenes[i] = new Scene(quarter);
            }
        }

        void note(Scene scene) {
            Scene room = roomBehind(size);
            if (room != null) {
                room.copyFrom(scene);
            }
        }

        private Scene roomBehind(int many) {
            int i = (first + many) % ROOMS;
            return i >= 0 && i < ROOMS ? scenes[i] : null;
        }

        int keepIfDone(int why) {
            if (why == 0) {
                keep();
            }
            return why;
        }

        int keepIfAny(int many) {
            if (many > 0) {
                keep();
            }
            return many;
        }

        private void keep() {
            if (size < UNDOS) {
                size++;
            } else {
                first = (first + 1) % ROOMS;
            }
        }

        int bringBack(Scene scene) {
            Scene room = roomBehind(size - 1);
            if (size < 1 || room == null) {
                return NONE;
            }
            size--;
            scene.copyFrom(room);
            return size;
        }

        void forget() {
            size = 0;
        }
    }

    /** MOST: which of those who are KNOCKING could be answered at once. */
    private static final class Matching {
        private static final int SETS = 1 << PERSONS;
        private final boolean[] open = new boolean[SETS];
        private final int[] near = new int[PERSONS];

        int greatestSet(Scene scene) {
            for (int p = 0; p < PERSONS; p++) {
                near[p] = scene.thoseWhoCouldAnswer(p);
            }
            int best = 0;
            open[0] = true;
            for (int set = 1; set < SETS; set++) {
                open[set] = canBeOpen(set);
                if (open[set] && Integer.bitCount(set) > Integer.bitCount(best)) {
                    best = set;
                }
            }
            return best;
        }

        /** Hall: each of a set has an answerer of his own just if no set in it has fewer answerers than members. */
        private boolean canBeOpen(int set) {
            int answerers = 0;
            for (int p = 0; p < PERSONS; p++) {
                if (hasBit(set, p)) {
                    int smaller = set & ~(1 << p);
                    if (smaller < 0 || smaller >= SETS || !open[smaller]) {
                        return false;
                    }
                    answerers |= near[p];
                }
            }
            return Integer.bitCount(answerers) >= Integer.bitCount(set);
        }
    }

    private static final class Chain {
        private final int[] persons = new int[PERSONS];
        private final int[] layer = new int[PERSONS];
        private int size;

        /** A layer has all who reach the last one in so many steps; so the first of like chains is found walking forth. */
        int find(Scene scene, int from, int to) {
            layer[0] = 1 << to;
            int d = 0;
            while (d + 1 < PERSONS && !hasBit(layer[d], from)) {
                d++;
                layer[d] = knownToAny(scene, layer[d - 1]);
            }
            if (!hasBit(layer[d], from)) {
                return NONE;
            }
            walk(scene, from, d);
            return d;
        }

        private static int knownToAny(Scene scene, int bits) {
            int known = 0;
            for (int p = 0; p < PERSONS; p++) {
                if (hasBit(bits, p)) {
                    known |= scene.knownTo(p);
                }
            }
            return known;
        }

        private void walk(Scene scene, int from, int steps) {
            persons[0] = from;
            size = 1;
            for (int d = steps - 1; d >= 0 && d < PERSONS && size < PERSONS; d--) {
                persons[size] = bitInOrder(scene.knownTo(persons[size - 1]) & layer[d], 0);
                size++;
            }
        }

        int personAt(int k) {
            return k >= 0 && k < size && k < PERSONS ? persons[k] : NONE;
        }
    }

    /** The latest TAG. */
    private static final class Label {
        private static final int ROOM = 32;
        int size;
        private final byte[] signs = new byte[ROOM];
        private final long[] words;

        Label(long[] words) {
            this.words = words;
        }

        void write(Scene scene, int p) {
            Quarter quarter = scene.quarter;
            size = 0;
            addWord(quarter.nameOfPerson(p));
            if (scene.isInLane(p)) {
                addText(" at ");
                addDigits(scene.detail(p, 1));
                addText(" ");
                addWay(W_UP + scene.detail(p, 2));
                return;
            }
            addText(scene.isKnocking(p) ? " knocks at " : " in ");
            addWord(quarter.nameOfHouse(scene.detail(p, 3)));
        }

        int signAt(int i) {
            return i >= 0 && i < size && i < ROOM ? signs[i] & 255 : NONE;
        }

        private void add(int sign) {
            if (size < ROOM) {
                signs[size] = (byte) sign;
                size++;
            }
        }

        private void addText(String text) {
            for (int i = 0; i < text.length(); i++) {
                add(text.charAt(i));
            }
        }

        private void addWord(long code) {
            for (int shift = 35; shift >= 0; shift -= 5) {
                int letter = (int) (code >> shift) & FIVE_BITS;
                if (letter != 0) {
                    add(letter + BEFORE_A);
                }
            }
        }

        private void addDigits(int place) {
            if (place >= 10) {
                add('0' + place / 10);
            }
            add('0' + place % 10);
        }

        private void addWay(int word) {
            if (word >= 0 && word < WORDS) {
                addWord(words[word]);
            }
        }
    }

    /** LINES of a BOOK, and what is told of the latest one. */
    private static final class Book {
        int why;
        int lived;
        private final Tape tape;
        private final Quarter quarter;
        private final int[] act = new int[LINES];
        private final int[] one = new int[LINES];
        private final int[] other = new int[LINES];
        private int size;
        private boolean judged;
        private int tickThen;
        private int insideThen;

        Book(Tape tape, Quarter quarter) {
            this.tape = tape;
            this.quarter = quarter;
        }

        boolean readAll() {
            size = 0;
            tape.startReading(BOOK_BYTES);
            for (int lines = 0; lines < TAPE_BYTES && !tape.isEnd(); lines++) {
                if (!readLine() || !tape.takeLineEnd()) {
                    return false;
                }
            }
            return true;
        }

        private boolean readLine() {
            boolean ticks = tape.isWord(W_TICK);
            int p = ticks ? NONE : tape.personHere(quarter);
            if (!ticks && p == NONE) {
                return false;
            }
            if (size >= LINES) {
                tape.refuse(TOO_MANY);
                return false;
            }
            return ticks ? readTicks() : readAct(p);
        }

        private boolean readTicks() {
            int n = tape.takeNumber(1, TICKS_AT_ONCE);
            add(W_TICK, n, 0);
            return n != NONE;
        }

        private boolean readAct(int p) {
            tape.take();
            int verb = tape.kind == WORD ? tape.number : NONE;
            switch (verb) {
                case W_KNOCKS:
                case W_CALLS:
                    return addAct(verb, p, tape.takeHouse(quarter));
                case W_GOES:
                    return addAct(verb, p, tape.takeOneOf(W_UP, W_STANDS));
                case W_QUITS:
                    return addAct(verb, p, 0);
                case W_MEETS:
                    return addMeeting(p, tape.takePerson(quarter));
                default:
                    tape.refuse(CANNOT_COME);
                    return false;
            }
        }

        private boolean addMeeting(int p, int q) {
            if (q != NONE && q == p) {
                tape.refuse(BAD_NAME);
                return false;
            }
            return addAct(W_MEETS, p, q);
        }

        private boolean addAct(int verb, int p, int other) {
            add(verb, p, other);
            return other != NONE;
        }

        private void add(int verb, int a, int b) {
            if (size < LINES) {
                act[size] = verb;
                one[size] = a;
                other[size] = b;
                size++;
            }
        }

        void live(Scene scene) {
            why = 0;
            lived = 0;
            for (int i = 0; i < size && i < LINES; i++) {
                why = liveLine(scene, act[i], one[i], other[i]);
                if (why != 0) {
                    break;
                }
                lived++;
            }
            judged = true;
            tickThen = scene.tick;
            insideThen = scene.thoseWhoAre(INSIDE);
        }

        private static int liveLine(Scene scene, int verb, int a, int b) {
            switch (verb) {
                case W_KNOCKS:
                    return reason(0, scene.tryKnock(a, b));
                case W_GOES:
                    return reason(10, scene.tryGo(a, b));
                case W_QUITS:
                    return reason(20, scene.tryQuit(a));
                case W_MEETS:
                    return reason(30, scene.tryMeet(a, b));
                case W_CALLS:
                    return reason(40, scene.tryCall(a, b));
                default:
                    if (scene.tick + a > LAST_TICK) {
                        return 51;
                    }
                    for (int t = 0; t < a; t++) {
                        scene.letTickGo();
                    }
                    return 0;
            }
        }

        private static int reason(int base, int whyNot) {
            return whyNot == 0 ? 0 : base + whyNot;
        }

        int tell(int what) {
            if (!judged) {
                return NONE;
            }
            switch (what) {
                case 0:
                    return why;
                case 1:
                    return lived;
                case 2:
                    return tickThen;
                case 3:
                    return insideThen;
                default:
                    return NONE;
            }
        }
    }

    /** A SENTENCE as steps, each behind those that it joins; PERSONS of whom a part is true are bits. */
    private static final class Saying {
        private static final int STEPS = 2 * ONES;
        int ones;
        private int size;
        private final int[] act = new int[STEPS];
        private final int[] one = new int[STEPS];
        private final int[] other = new int[STEPS];
        private final int[] stack = new int[STEPS];
        private int top;

        void clear() {
            ones = 0;
            size = 0;
        }

        void copyFrom(Saying from) {
            ones = from.ones;
            size = from.size;
            System.arraycopy(from.act, 0, act, 0, STEPS);
            System.arraycopy(from.one, 0, one, 0, STEPS);
            System.arraycopy(from.other, 0, other, 0, STEPS);
        }

        boolean readAll(Tape tape, Quarter quarter) {
            clear();
            tape.startReading(SENTENCE_BYTES);
            if (!readCond(tape, quarter, 1)) {
                return false;
            }
            return tape.isEnd() || refuse(tape, CANNOT_COME);
        }

        private static boolean refuse(Tape tape, int fault) {
            tape.refuse(fault);
            return false;
        }

        /** An ALL is joined to those ahead of it when it is whole: 'and' binds its ONES before 'or' does. */
        private boolean readCond(Tape tape, Quarter quarter, int depth) {
            boolean behindAnd = false;
            boolean behindOr = false;
            for (int i = 0; i < SENTENCE_BYTES; i++) {
                if (!readOne(tape, quarter, depth)) {
                    return false;
                }
                if (behindAnd) {
                    add(W_AND, 0, 0);
                }
                behindAnd = tape.isWord(W_AND);
                if (!behindAnd) {
                    if (behindOr) {
                        add(W_OR, 0, 0);
                    }
                    behindOr = tape.isWord(W_OR);
                    if (!behindOr) {
                        return true;
                    }
                }
                tape.take();
            }
            return refuse(tape, CANNOT_COME);
        }

        private boolean readOne(Tape tape, Quarter quarter, int depth) {
            boolean bracket = tape.isSignOf('(');
            int word = tape.kind == WORD ? tape.number : NONE;
            if (!bracket && !canBeginOne(word)) {
                return refuse(tape, CANNOT_COME);
            }
            if (ones >= ONES || depth > WITHIN) {
                return refuse(tape, TOO_MANY);
            }
            ones++;
            if (bracket) {
                return readBracket(tape, quarter, depth);
            }
            return word == W_NOT ? readNot(tape, quarter, depth) : readPlainOne(tape, quarter, word);
        }

        private static boolean canBeginOne(int word) {
            return word == W_STERN || word == W_KNOWS || word >= W_NOT && word <= W_NUMBER;
        }

        private boolean readBracket(Tape tape, Quarter quarter, int depth) {
            tape.take();
            if (!readCond(tape, quarter, depth + 1)) {
                return false;
            }
            if (!tape.isSignOf(')')) {
                return refuse(tape, CANNOT_COME);
            }
            tape.take();
            return true;
        }

        private boolean readNot(Tape tape, Quarter quarter, int depth) {
            tape.take();
            if (!readOne(tape, quarter, depth + 1)) {
                return false;
            }
            add(W_NOT, 0, 0);
            return true;
        }

        private boolean readPlainOne(Tape tape, Quarter quarter, int word) {
            int a = 0;
            int b = 0;
            if (word == W_KNOWS) {
                a = tape.takePerson(quarter);
            } else if (word == W_OF) {
                a = tape.takeHouse(quarter);
            } else if (word >= W_PLACE) {
                a = tape.takeCompare();
                b = a == NONE ? NONE : tape.takeNumber(0, 999);
            }
            if (a == NONE || b == NONE) {
                return false;
            }
            add(word, a, b);
            tape.take();
            return true;
        }

        private void add(int word, int a, int b) {
            if (size < STEPS) {
                act[size] = word;
                one[size] = a;
                other[size] = b;
                size++;
            }
        }

        int trueOf(Scene scene) {
            top = 0;
            for (int i = 0; i < size && i < STEPS; i++) {
                if (act[i] == W_OR) {
                    push(pop() | pop());
                } else if (act[i] == W_AND) {
                    push(pop() & pop());
                } else if (act[i] == W_NOT) {
                    push(~pop());
                } else {
                    push(personsOf(scene, act[i], one[i], other[i]));
                }
            }
            return pop() & (1 << scene.quarter.persons) - 1;
        }

        private void push(int bits) {
            if (top >= 0 && top < STEPS) {
                stack[top] = bits;
                top++;
            }
        }

        private int pop() {
            if (top < 1 || top > STEPS) {
                return 0;
            }
            top--;
            return stack[top];
        }

        private static int personsOf(Scene scene, int word, int a, int b) {
            int bits = 0;
            for (int p = 0; p < scene.quarter.persons; p++) {
                if (isTrueOf(scene, p, word, a, b)) {
                    bits |= 1 << p;
                }
            }
            return bits;
        }

        private static boolean isTrueOf(Scene scene, int p, int word, int a, int b) {
            switch (word) {
                case W_WALKING:
                    return scene.isInLane(p);
                case W_KNOCKING:
                    return scene.isKnocking(p);
                case W_INSIDE:
                    return scene.isInside(p);
                case W_STERN:
                    return scene.quarter.isStern(p);
                case W_KNOWS:
                    return scene.doesKnow(p, a);
                case W_OF:
                    return scene.quarter.homeOf(p) == a;
                case W_PLACE:
                    return compares(scene.detail(p, 1), a, b);
                case W_KNOWN:
                    return compares(Integer.bitCount(scene.knownTo(p)), a, b);
                case W_WAITED:
                    return compares(scene.detail(p, 7), a, b);
                default:
                    return compares(p, a, b);
            }
        }

        private static boolean compares(int value, int sign, int bound) {
            if (sign == '<') {
                return value < bound;
            }
            return sign == '=' ? value == bound : value > bound;
        }
    }

    private static final class QuarterReader {
        private final Tape tape;
        private final Quarter quarter;
        private final Scene scene;
        private boolean laneTold;
        private boolean earTold;
        private boolean stayTold;

        QuarterReader(Tape tape, Street street) {
            this.tape = tape;
            quarter = street.quarter;
            scene = street.scene;
        }

        /** How many LINES; NONE for a FAULT, which the tape keeps. */
        int readAll() {
            quarter.clear();
            scene.clear();
            laneTold = false;
            earTold = false;
            stayTold = false;
            tape.startReading(QUARTER_BYTES);
            int lines = 0;
            for (; lines < TAPE_BYTES && !tape.isEnd(); lines++) {
                if (!readLine() || !tape.takeLineEnd()) {
                    return NONE;
                }
            }
            return lines;
        }

        private boolean readLine() {
            if (tape.kind != WORD) {
                return refuse(CANNOT_COME);
            }
            switch (tape.number) {
                case W_LANE:
                    return readLane();
                case W_HOUSE:
                    return readHouse();
                case W_PERSON:
                    return readPerson();
                case W_KNOWS:
                    return readKnows();
                case W_CALLS:
                    return readCalls();
                case W_EAR:
                    return readEar();
                case W_STAY:
                    return readStay();
                default:
                    return refuse(CANNOT_COME);
            }
        }

        private boolean refuse(int fault) {
            tape.refuse(fault);
            return false;
        }

        private boolean readLane() {
            if (laneTold || quarter.houses > 0 || quarter.persons > 0) {
                return refuse(BAD_NAME);
            }
            laneTold = true;
            quarter.places = tape.takeNumber(2, 20);
            return quarter.places != NONE;
        }

        private boolean readEar() {
            if (earTold) {
                return refuse(BAD_NAME);
            }
            earTold = true;
            quarter.ear = tape.takeNumber(0, 9);
            return quarter.ear != NONE;
        }

        private boolean readStay() {
            if (stayTold) {
                return refuse(BAD_NAME);
            }
            stayTold = true;
            quarter.stay = tape.takeNumber(1, 30);
            return quarter.stay != NONE;
        }

        private boolean readHouse() {
            if (quarter.houses >= HOUSES) {
                return refuse(TOO_MANY);
            }
            long name = tape.takeNewName(quarter);
            if (name == 0) {
                return false;
            }
            int place = tape.takeNumber(0, quarter.places - 1);
            if (place == NONE) {
                return false;
            }
            quarter.addHouse(name, place);
            return true;
        }

        private boolean readPerson() {
            if (quarter.persons >= PERSONS) {
                return refuse(TOO_MANY);
            }
            long name = tape.takeNewName(quarter);
            if (name == 0) {
                return false;
            }
            tape.take();
            boolean tramp = tape.isWord(W_TRAMP);
            int home = tramp ? NONE : tape.houseHere(quarter);
            if (!tramp && home == NONE) {
                return false;
            }
            int place = tape.takeNumber(0, quarter.places - 1);
            int way = place == NONE ? NONE : tape.takeOneOf(W_UP, W_STANDS);
            int mood = way == NONE ? NONE : tape.takeOneOf(W_KIND, W_STERN);
            if (mood == NONE) {
                return false;
            }
            quarter.addPerson(name, home, mood);
            scene.addPerson(quarter.persons - 1, place, way);
            return true;
        }

        private boolean readKnows() {
            int p = tape.takePerson(quarter);
            int q = p == NONE ? NONE : tape.takePerson(quarter);
            if (q == NONE) {
                return false;
            }
            // Who live in one HOUSE KNOW one another: no MEETING of theirs is left.
            return scene.tryMeet(p, q) == 0 || refuse(BAD_NAME);
        }

        private boolean readCalls() {
            if (scene.callCount >= CALLS) {
                return refuse(TOO_MANY);
            }
            int p = tape.takePerson(quarter);
            int h = p == NONE ? NONE : tape.takeHouse(quarter);
            if (h == NONE) {
                return false;
            }
            return scene.tryCall(p, h) == 0 || refuse(BAD_NAME);
        }
    }
}
