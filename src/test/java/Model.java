import java.util.ArrayDeque;
import java.util.ArrayList;
import java.util.Arrays;
import java.util.HashSet;
import java.util.List;
import java.util.Set;
import java.util.TreeSet;

/** The document told once more, in the plainest words and with no care for room or speed. */
final class Model {
    static final Set<String> WORDS = new HashSet<>(Arrays.asList(("lane house person tramp knows calls ear stay up down "
        + "stands kind stern knocks goes quits meets tick or and not walking knocking inside of place known waited "
        + "number").split(" ")));
    static final List<String> WAYS = List.of("up", "down", "stands");

    static final class Fault extends RuntimeException {
        final int kind;
        final int place;

        Fault(int kind, int place) {
            this.kind = kind;
            this.place = place;
        }
    }

    record Token(String text, int place, char kind) {
    }

    static final class House {
        String name;
        int place;
    }

    static final class Person {
        String name;
        int home;
        int place;
        String way;
        boolean stern;
        int how;
        int at = -1;
        int stay;
        int waited;
        int opened;
        TreeSet<Integer> knows = new TreeSet<>();

        Person copy() {
            Person c = new Person();
            c.name = name;
            c.home = home;
            c.place = place;
            c.way = way;
            c.stern = stern;
            c.how = how;
            c.at = at;
            c.stay = stay;
            c.waited = waited;
            c.opened = opened;
            c.knows = new TreeSet<>(knows);
            return c;
        }
    }

    interface Cond {
        boolean holds(World w, int p);
    }

    static final class World {
        int places = 10;
        int ear = 2;
        int stay = 3;
        int tick;
        int shut;
        List<House> houses = new ArrayList<>();
        List<Person> persons = new ArrayList<>();
        List<int[]> calls = new ArrayList<>();

        World copy() {
            World c = new World();
            c.places = places;
            c.ear = ear;
            c.stay = stay;
            c.tick = tick;
            c.shut = shut;
            c.houses = houses;
            for (Person p : persons) {
                c.persons.add(p.copy());
            }
            c.calls.addAll(calls);
            return c;
        }

        void know(int a, int b) {
            if (a != b) {
                persons.get(a).knows.add(b);
                persons.get(b).knows.add(a);
            }
        }

        boolean lives(int p, int h) {
            return persons.get(p).home == h;
        }

        boolean stranger(int p, int h) {
            if (lives(p, h)) {
                return false;
            }
            for (int q : persons.get(p).knows) {
                if (lives(q, h)) {
                    return false;
                }
            }
            return true;
        }

        boolean toCall(int p, int h) {
            return calls.stream().anyMatch(c -> c[0] == p && c[1] == h);
        }

        int knock(int p, int h) {
            Person a = persons.get(p);
            if (a.how != 0) {
                return 1;
            }
            if (houses.get(h).place != a.place) {
                return 2;
            }
            if (a.home == h) {
                return 3;
            }
            a.how = 1;
            a.at = h;
            return 0;
        }

        int go(int p, int way) {
            Person a = persons.get(p);
            if (a.how != 0) {
                return 1;
            }
            if (a.way.equals(WAYS.get(way))) {
                return 2;
            }
            a.way = WAYS.get(way);
            return 0;
        }

        int quit(int p) {
            Person a = persons.get(p);
            if (a.how != 1) {
                return 1;
            }
            a.how = 0;
            a.at = -1;
            return 0;
        }

        int meets(int p, int q) {
            if (persons.get(p).knows.contains(q)) {
                return 1;
            }
            know(p, q);
            return 0;
        }

        int call(int p, int h) {
            if (lives(p, h)) {
                return 1;
            }
            if (toCall(p, h)) {
                return 2;
            }
            if (calls.size() == 12) {
                return 3;
            }
            calls.add(new int[] {p, h});
            return 0;
        }

        /** Who could answer at a HOUSE, the nearest first. */
        List<Integer> answerers(int h) {
            List<Integer> all = new ArrayList<>();
            for (int far = 0; far <= ear; far++) {
                for (int q = 0; q < persons.size(); q++) {
                    Person b = persons.get(q);
                    if (b.how == 0 && Math.abs(b.place - houses.get(h).place) == far && stranger(q, h)) {
                        all.add(q);
                    }
                }
            }
            return all;
        }

        void tick() {
            for (Person a : persons) {
                if (a.how == 2) {
                    a.stay--;
                    if (a.stay == 0) {
                        a.how = 0;
                        a.at = -1;
                    }
                }
            }
            for (Person a : persons) {
                if (a.how == 0 && a.way.equals("up")) {
                    if (a.place == places - 1) {
                        a.way = "down";
                    } else {
                        a.place++;
                    }
                } else if (a.how == 0 && a.way.equals("down")) {
                    if (a.place == 0) {
                        a.way = "up";
                    } else {
                        a.place--;
                    }
                }
            }
            for (int p = 0; p < persons.size(); p++) {
                Person a = persons.get(p);
                for (int k = 0; k < calls.size() && a.how == 0; k++) {
                    if (calls.get(k)[0] == p && houses.get(calls.get(k)[1]).place == a.place) {
                        a.how = 1;
                        a.at = calls.get(k)[1];
                        calls.remove(k);
                    }
                }
            }
            Set<Integer> answered = new HashSet<>();
            for (int p = 0; p < persons.size(); p++) {
                if (persons.get(p).how == 1) {
                    answerRound(p, answered);
                }
            }
            tick++;
        }

        private void answerRound(int p, Set<Integer> answered) {
            Person a = persons.get(p);
            List<Integer> could = answerers(a.at);
            could.removeAll(answered);
            if (could.isEmpty()) {
                a.waited++;
                return;
            }
            int q = could.get(0);
            Person b = persons.get(q);
            int h = a.at;
            b.opened++;
            answered.add(q);
            if (b.stern && b.knows.contains(p)) {
                a.how = 0;
                a.at = -1;
                shut++;
            } else {
                a.how = 2;
                a.stay = stay;
            }
            know(q, p);
            for (int r = 0; r < persons.size(); r++) {
                if (lives(r, h)) {
                    know(q, r);
                }
            }
        }

        boolean anyStranger() {
            for (int h = 0; h < houses.size(); h++) {
                for (int p = 0; p < persons.size(); p++) {
                    if (stranger(p, h)) {
                        return true;
                    }
                }
            }
            return false;
        }

        int drawn(int n, int seed) {
            int[] x = {seed};
            for (int t = 0; t < n; t++) {
                if (tick == 1000) {
                    return t;
                }
                for (int p = 0; p < persons.size(); p++) {
                    int d = draw(x, 8);
                    if (d == 0 && !houses.isEmpty()) {
                        knock(p, draw(x, houses.size()));
                    } else if (d == 1) {
                        go(p, draw(x, 3));
                    } else if (d == 2 && !houses.isEmpty()) {
                        call(p, draw(x, houses.size()));
                    } else if (d == 3) {
                        quit(p);
                    }
                }
                tick();
            }
            return n;
        }

        private static int draw(int[] x, int n) {
            x[0] = x[0] * 1103515245 + 12345;
            return (x[0] >>> 8) % n;
        }

        int bits(java.util.function.IntPredicate test) {
            int bits = 0;
            for (int p = 0; p < persons.size(); p++) {
                if (test.test(p)) {
                    bits |= 1 << p;
                }
            }
            return bits;
        }

        int findHouse(String name) {
            for (int h = 0; h < houses.size(); h++) {
                if (houses.get(h).name.equals(name)) {
                    return h;
                }
            }
            return -1;
        }

        int findPerson(String name) {
            for (int p = 0; p < persons.size(); p++) {
                if (persons.get(p).name.equals(name)) {
                    return p;
                }
            }
            return -1;
        }
    }

    /** TOKENS first, then their order: a Fault is thrown at the first that can't be. */
    static final class Reading {
        final List<Token> tokens = new ArrayList<>();
        final World w;
        int i = 0;
        int ones = 0;

        Reading(String text, int most, World w) {
            this.w = w;
            int at = 0;
            while (at < text.length() && !(text.length() > most && at >= most)) {
                char c = text.charAt(at);
                int stop = at;
                while (stop < text.length() && String.valueOf(text.charAt(stop)).matches("[a-z0-9]")) {
                    stop++;
                }
                if (stop > at) {
                    String run = text.substring(at, stop);
                    char kind = run.matches("[a-z]{1,8}") ? 'w' : run.matches("[0-9]{1,3}") ? 'n' : '?';
                    tokens.add(new Token(run, at, kind));
                    at = stop;
                } else {
                    if (c != ' ' && c != '\n') {
                        tokens.add(new Token("" + c, at, ";<=>()".indexOf(c) >= 0 ? 's' : '?'));
                    }
                    at++;
                }
            }
            boolean tooLong = text.length() > most;
            tokens.add(new Token("", tooLong ? most : text.length(), tooLong ? '?' : 'e'));
        }

        Token peek() {
            return tokens.get(i);
        }

        Token next() {
            return tokens.get(i < tokens.size() - 1 ? i++ : i);
        }

        void must(boolean fine, int kind, Token t) {
            if (!fine) {
                throw new Fault(kind, t.place);
            }
        }

        boolean isEnd() {
            return peek().kind == 'e';
        }

        int number(int least, int most) {
            Token t = next();
            must(t.kind == 'n', 1, t);
            int n = Integer.parseInt(t.text);
            must(n >= least && n <= most, 2, t);
            return n;
        }

        String oneOf(String... words) {
            Token t = next();
            must(t.kind == 'w' && Arrays.asList(words).contains(t.text), 1, t);
            return t.text;
        }

        Token name() {
            Token t = next();
            must(t.kind == 'w' && !WORDS.contains(t.text), 1, t);
            return t;
        }

        int person() {
            Token t = name();
            must(w.findPerson(t.text) >= 0, 3, t);
            return w.findPerson(t.text);
        }

        int house() {
            Token t = name();
            must(w.findHouse(t.text) >= 0, 3, t);
            return w.findHouse(t.text);
        }

        void semicolon() {
            Token t = next();
            must(t.text.equals(";"), 1, t);
        }

        String newName() {
            Token t = name();
            must(w.findHouse(t.text) < 0 && w.findPerson(t.text) < 0, 3, t);
            return t.text;
        }

        int quarter() {
            Set<String> told = new HashSet<>();
            int lines = 0;
            while (!isEnd()) {
                Token t = peek();
                String word = oneOf("lane", "house", "person", "knows", "calls", "ear", "stay");
                switch (word) {
                    case "lane" -> {
                        must(!told.contains("lane") && !told.contains("house") && !told.contains("person"), 3, t);
                        w.places = number(2, 20);
                    }
                    case "ear" -> {
                        must(!told.contains("ear"), 3, t);
                        w.ear = number(0, 9);
                    }
                    case "stay" -> {
                        must(!told.contains("stay"), 3, t);
                        w.stay = number(1, 30);
                    }
                    case "house" -> {
                        must(w.houses.size() < 6, 4, t);
                        House h = new House();
                        h.name = newName();
                        h.place = number(0, w.places - 1);
                        w.houses.add(h);
                    }
                    case "person" -> {
                        must(w.persons.size() < 8, 4, t);
                        personLine();
                    }
                    case "knows" -> {
                        int p = person();
                        Token second = peek();
                        int q = person();
                        must(p != q && !w.persons.get(p).knows.contains(q), 3, second);
                        w.know(p, q);
                    }
                    default -> {
                        must(w.calls.size() < 12, 4, t);
                        int p = person();
                        Token second = peek();
                        int h = house();
                        must(w.call(p, h) == 0, 3, second);
                    }
                }
                semicolon();
                told.add(word);
                lines++;
            }
            return lines;
        }

        private void personLine() {
            Person p = new Person();
            p.name = newName();
            if (peek().text.equals("tramp")) {
                next();
                p.home = -1;
            } else {
                p.home = house();
            }
            p.place = number(0, w.places - 1);
            p.way = oneOf("up", "down", "stands");
            p.stern = oneOf("kind", "stern").equals("stern");
            w.persons.add(p);
            int me = w.persons.size() - 1;
            for (int q = 0; q < me; q++) {
                if (p.home >= 0 && w.lives(q, p.home)) {
                    w.know(me, q);
                }
            }
        }

        List<Object[]> book() {
            List<Object[]> lines = new ArrayList<>();
            while (!isEnd()) {
                Token t = peek();
                if (t.text.equals("tick")) {
                    next();
                    must(lines.size() < 40, 4, t);
                    lines.add(new Object[] {"tick", number(1, 60), 0});
                } else {
                    int p = person();
                    must(lines.size() < 40, 4, t);
                    String verb = oneOf("knocks", "goes", "quits", "meets", "calls");
                    int other = 0;
                    if (verb.equals("knocks") || verb.equals("calls")) {
                        other = house();
                    } else if (verb.equals("goes")) {
                        other = WAYS.indexOf(oneOf("up", "down", "stands"));
                    } else if (verb.equals("meets")) {
                        Token him = peek();
                        other = person();
                        must(other != p, 3, him);
                    }
                    lines.add(new Object[] {verb, p, other});
                }
                semicolon();
            }
            return lines;
        }

        Cond sentence() {
            Cond c = cond(0);
            Token t = peek();
            must(isEnd(), 1, t);
            return c;
        }

        private Cond cond(int within) {
            Cond c = all(within);
            while (peek().text.equals("or")) {
                next();
                Cond a = c;
                Cond b = all(within);
                c = (v, p) -> a.holds(v, p) || b.holds(v, p);
            }
            return c;
        }

        private Cond all(int within) {
            Cond c = one(within);
            while (peek().text.equals("and")) {
                next();
                Cond a = c;
                Cond b = one(within);
                c = (v, p) -> a.holds(v, p) && b.holds(v, p);
            }
            return c;
        }

        private Cond one(int within) {
            Token t = next();
            must(List.of("not", "(", "walking", "knocking", "inside", "stern", "knows", "of", "place", "known", "waited",
                "number").contains(t.text), 1, t);
            ones++;
            must(ones <= 20 && within < 8, 4, t);
            switch (t.text) {
                case "not": {
                    Cond c = one(within + 1);
                    return (v, p) -> !c.holds(v, p);
                }
                case "(": {
                    Cond c = cond(within + 1);
                    Token close = next();
                    must(close.text.equals(")"), 1, close);
                    return c;
                }
                case "walking":
                    return (v, p) -> v.persons.get(p).how == 0;
                case "knocking":
                    return (v, p) -> v.persons.get(p).how == 1;
                case "inside":
                    return (v, p) -> v.persons.get(p).how == 2;
                case "stern":
                    return (v, p) -> v.persons.get(p).stern;
                case "knows": {
                    int q = person();
                    return (v, p) -> v.persons.get(p).knows.contains(q);
                }
                case "of": {
                    int h = house();
                    return (v, p) -> v.lives(p, h);
                }
                default:
                    return compare(t.text);
            }
        }

        private Cond compare(String word) {
            Token sign = next();
            must(List.of("<", "=", ">").contains(sign.text), 1, sign);
            int n = number(0, 999);
            return (v, p) -> {
                Person a = v.persons.get(p);
                int value = word.equals("place") ? a.place : word.equals("known") ? a.knows.size()
                    : word.equals("waited") ? a.waited : p;
                return sign.text.equals("<") ? value < n : sign.text.equals("=") ? value == n : value > n;
            };
        }
    }

    private World now = new World();
    private Cond saying;
    private StringBuilder tape = new StringBuilder();
    private final ArrayDeque<World> undos = new ArrayDeque<>();
    private final World[] imageWorld = new World[2];
    private final Cond[] imageSaying = new Cond[2];
    private int fault;
    private int those = -1;
    private List<Integer> chain = List.of();
    private int ask = -1;
    private String tag = "";
    private int[] told;

    private boolean isP(int p) {
        return p >= 0 && p < now.persons.size();
    }

    private boolean isH(int h) {
        return h >= 0 && h < now.houses.size();
    }

    private void keep(World before) {
        undos.addLast(before);
        if (undos.size() > 8) {
            undos.removeFirst();
        }
    }

    private int done(World before, int why) {
        if (why == 0) {
            keep(before);
        }
        return why;
    }

    int feed(int a, int b, int c, int d, int e) {
        if (tape.length() + 20 > 940) {
            return -1;
        }
        for (int x : new int[] {a, b, c, d, e}) {
            for (int s = 24; s >= 0; s -= 8) {
                tape.append((char) (x >>> s & 255));
            }
        }
        return tape.length();
    }

    boolean end(int n) {
        if (n < 0 || n > tape.length()) {
            return false;
        }
        tape.setLength(n);
        return true;
    }

    private String takeTape() {
        String text = tape.toString();
        tape = new StringBuilder();
        return text;
    }

    int quarter() {
        fault = 0;
        World w = new World();
        try {
            int lines = new Reading(takeTape(), 900, w).quarter();
            now = w;
            saying = null;
            undos.clear();
            return lines;
        } catch (Fault f) {
            fault = f.kind;
            return -1 - f.place;
        }
    }

    int fault() {
        return fault;
    }

    int house(int h, int what) {
        if (!isH(h)) {
            return -1;
        }
        switch (what) {
            case 0: return now.houses.get(h).place;
            case 1: return now.bits(p -> now.lives(p, h));
            case 2: return now.bits(p -> now.stranger(p, h));
            case 3: return now.bits(p -> now.persons.get(p).how == 1 && now.persons.get(p).at == h);
            case 4: return now.bits(p -> now.persons.get(p).how == 2 && now.persons.get(p).at == h);
            default: return -1;
        }
    }

    int person(int p, int what) {
        if (!isP(p) || what < 0 || what > 10) {
            return Check.THROWN;
        }
        Person a = now.persons.get(p);
        int houses = 0;
        for (int h = 0; h < now.houses.size(); h++) {
            houses |= now.toCall(p, h) ? 1 << h : 0;
        }
        return new int[] {a.how, a.place, WAYS.indexOf(a.way), a.at, a.stay, now.bits(a.knows::contains), houses, a.waited,
            a.opened, a.home, a.stern ? 1 : 0}[what];
    }

    int call(int k, int what) {
        return k < 0 || k >= now.calls.size() || what < 0 || what > 1 ? -1 : now.calls.get(k)[what];
    }

    int now(int what) {
        switch (what) {
            case 0: return now.tick;
            case 1: case 2: case 3: return now.bits(p -> now.persons.get(p).how == what - 1);
            case 4: {
                int bits = 0;
                for (int h = 0; h < now.houses.size(); h++) {
                    bits |= house(h, 2) != 0 ? 1 << h : 0;
                }
                return bits;
            }
            case 5: return now.calls.size();
            case 6: return now.persons.stream().mapToInt(p -> p.opened).sum();
            case 7: return now.shut;
            default: return -1;
        }
    }

    int knock(int p, int h) {
        World before = now.copy();
        return isP(p) && isH(h) ? done(before, now.knock(p, h)) : -1;
    }

    int go(int p, int way) {
        World before = now.copy();
        return isP(p) && way >= 0 && way <= 2 ? done(before, now.go(p, way)) : -1;
    }

    int quit(int p) {
        World before = now.copy();
        return isP(p) ? done(before, now.quit(p)) : -1;
    }

    int meets(int p, int q) {
        World before = now.copy();
        return isP(p) && isP(q) && p != q ? done(before, now.meets(p, q)) : -1;
    }

    int calls(int p, int h) {
        World before = now.copy();
        return isP(p) && isH(h) ? done(before, now.call(p, h)) : -1;
    }

    int ticks(int n) {
        if (n < 1 || n > 60) {
            return -1;
        }
        World before = now.copy();
        int gone = 0;
        while (gone < n && now.tick < 1000) {
            now.tick();
            gone++;
        }
        if (gone > 0) {
            keep(before);
        }
        return gone;
    }

    int undo() {
        if (undos.isEmpty()) {
            return -1;
        }
        now = undos.removeLast();
        return undos.size();
    }

    int answer(int p) {
        if (!isP(p) || now.persons.get(p).how != 1) {
            return -1;
        }
        List<Integer> could = now.answerers(now.persons.get(p).at);
        return could.isEmpty() ? -1 : could.get(0);
    }

    private boolean matches(int set, int p, int used) {
        if (p == now.persons.size()) {
            return true;
        }
        if ((set >> p & 1) == 0) {
            return matches(set, p + 1, used);
        }
        for (int q : now.answerers(now.persons.get(p).at)) {
            if ((used >> q & 1) == 0 && matches(set, p + 1, used | 1 << q)) {
                return true;
            }
        }
        return false;
    }

    int most() {
        int knocking = now(2);
        those = 0;
        for (int set = 0; set < 256; set++) {
            if ((set & ~knocking) == 0 && Integer.bitCount(set) > Integer.bitCount(those) && matches(set, 0, 0)) {
                those = set;
            }
        }
        return Integer.bitCount(those);
    }

    int those() {
        return those;
    }

    /** The first chain of just so many steps, tried PERSON by PERSON. */
    private boolean chainOf(List<Integer> sofar, int q, int steps) {
        int last = sofar.get(sofar.size() - 1);
        if (steps == 0) {
            return last == q;
        }
        for (int r : now.persons.get(last).knows) {
            if (!sofar.contains(r)) {
                sofar.add(r);
                if (chainOf(sofar, q, steps - 1)) {
                    return true;
                }
                sofar.remove(sofar.size() - 1);
            }
        }
        return false;
    }

    int chain(int p, int q) {
        if (!isP(p) || !isP(q)) {
            return -1;
        }
        for (int steps = 0; steps < 8; steps++) {
            List<Integer> sofar = new ArrayList<>(List.of(p));
            if (chainOf(sofar, q, steps)) {
                chain = sofar;
                return steps;
            }
        }
        return -1;
    }

    int chainAt(int k) {
        return k >= 0 && k < chain.size() ? chain.get(k) : -1;
    }

    int who() {
        String t = takeTape();
        if (t.isEmpty() || t.length() > 12 || t.length() % 2 == 1) {
            return -1;
        }
        int left = (1 << now.persons.size()) - 1;
        for (int i = 0; i < t.length(); i += 2) {
            int p = t.charAt(i);
            int yes = t.charAt(i + 1);
            if (!isP(p) || yes > 1) {
                return -1;
            }
            left &= now.bits(r -> r != p && now.persons.get(r).knows.contains(p) == (yes == 1));
        }
        if (left > 0) {
            int best = 99;
            for (int a = 0; a < now.persons.size(); a++) {
                int yes = 0;
                int no = 0;
                int self = 0;
                for (int r = 0; r < now.persons.size(); r++) {
                    if ((left >> r & 1) == 1) {
                        if (r == a) {
                            self++;
                        } else if (now.persons.get(a).knows.contains(r)) {
                            yes++;
                        } else {
                            no++;
                        }
                    }
                }
                int worst = Math.max(yes, Math.max(no, self));
                if (worst < best) {
                    best = worst;
                    ask = a;
                }
            }
        }
        return left;
    }

    int ask() {
        return ask;
    }

    int opens(int p) {
        if (!isP(p) || now.persons.get(p).how != 1) {
            return -1;
        }
        World w = now.copy();
        for (int t = 1; t <= 300; t++) {
            w.tick();
            if (w.persons.get(p).how != 1) {
                return w.persons.get(p).how == 2 ? t : -1;
            }
        }
        return -1;
    }

    int known() {
        World w = now.copy();
        int t = 0;
        while (w.anyStranger()) {
            if (t == 300) {
                return -1;
            }
            w.tick();
            t++;
        }
        return t;
    }

    int meet(int p, int q) {
        if (!isP(p) || !isP(q) || p == q) {
            return -1;
        }
        World w = now.copy();
        for (int t = 0; t <= 300; t++) {
            Person a = w.persons.get(p);
            Person b = w.persons.get(q);
            if (a.how == 0 && b.how == 0 && a.place == b.place) {
                return t;
            }
            w.tick();
        }
        return -1;
    }

    int busiest() {
        int best = -1;
        for (int p = 0; p < now.persons.size(); p++) {
            int times = now.persons.get(p).opened;
            if (times > (best < 0 ? 0 : now.persons.get(best).opened)) {
                best = p;
            }
        }
        return best;
    }

    int mean(int what) {
        if (now.persons.isEmpty() || what < 0 || what > 1) {
            return Check.THROWN;
        }
        int above = now.persons.stream().mapToInt(p -> p.knows.size()).sum();
        int below = now.persons.size();
        int g = java.math.BigInteger.valueOf(above).gcd(java.math.BigInteger.valueOf(below)).intValue();
        return (what == 0 ? above : below) / g;
    }

    int tag(int p) {
        if (!isP(p)) {
            return -1;
        }
        Person a = now.persons.get(p);
        tag = a.how == 0 ? a.name + " at " + a.place + " " + a.way
            : a.name + (a.how == 1 ? " knocks at " : " in ") + now.houses.get(a.at).name;
        return tag.length();
    }

    int byteAt(int i) {
        return i >= 0 && i < tag.length() ? tag.charAt(i) : -1;
    }

    int drawn(int n, int seed) {
        if (n < 1 || n > 60) {
            return -1;
        }
        World before = now.copy();
        int gone = now.drawn(n, seed);
        if (gone > 0) {
            keep(before);
        }
        return gone;
    }

    int odds(int p, int n, int seed) {
        if (!isP(p) || n < 1 || n > 30) {
            return -1;
        }
        int inside = 0;
        for (int i = 0; i < n; i++) {
            World w = now.copy();
            w.drawn(20, seed + i);
            inside += w.persons.get(p).how == 2 ? 1 : 0;
        }
        return inside;
    }

    int book(int lives) {
        if (lives != 0 && lives != 1) {
            return -1000;
        }
        fault = 0;
        List<Object[]> lines;
        try {
            lines = new Reading(takeTape(), 400, now).book();
        } catch (Fault f) {
            fault = f.kind;
            return -2 - f.place;
        }
        World w = now.copy();
        int why = 0;
        int right = 0;
        for (Object[] line : lines) {
            int a = (Integer) line[1];
            int b = (Integer) line[2];
            why = 0;
            switch ((String) line[0]) {
                case "knocks" -> why = w.knock(a, b);
                case "goes" -> why = w.go(a, b);
                case "quits" -> why = w.quit(a);
                case "meets" -> why = w.meets(a, b);
                case "calls" -> why = w.call(a, b);
                default -> {
                    if (1000 - w.tick < a) {
                        why = 1;
                    } else {
                        for (int t = 0; t < a; t++) {
                            w.tick();
                        }
                    }
                }
            }
            if (why != 0) {
                why += 10 * List.of("knocks", "goes", "quits", "meets", "calls", "tick").indexOf((String) line[0]);
                break;
            }
            right++;
        }
        told = new int[] {why, right, w.tick, w.bits(p -> w.persons.get(p).how == 2)};
        if (lives == 1) {
            if (right > 0) {
                keep(now);
            }
            now = w;
        }
        return why == 0 ? -1 : right;
    }

    int told(int what) {
        return told == null || what < 0 || what > 3 ? -1 : told[what];
    }

    int sentence() {
        fault = 0;
        try {
            Reading r = new Reading(takeTape(), 200, now);
            saying = r.sentence();
            return r.ones;
        } catch (Fault f) {
            fault = f.kind;
            return -1 - f.place;
        }
    }

    int said(int k) {
        if (saying == null) {
            return -1;
        }
        List<Integer> those = new ArrayList<>();
        for (int p = 0; p < now.persons.size(); p++) {
            if (saying.holds(now, p)) {
                those.add(p);
            }
        }
        return k == -1 ? those.size() : k >= 0 && k < those.size() ? those.get(k) : -1;
    }

    boolean image(int k) {
        if (k != 0 && k != 1) {
            return false;
        }
        imageWorld[k] = now.copy();
        imageSaying[k] = saying;
        return true;
    }

    boolean restore(int k) {
        if (k != 0 && k != 1 || imageWorld[k] == null) {
            return false;
        }
        now = imageWorld[k].copy();
        saying = imageSaying[k];
        undos.clear();
        return true;
    }

    int count(int what) {
        return what < 0 || what > 5 ? -1 : new int[] {now.houses.size(), now.persons.size(), now.places, now.ear, now.stay,
            tape.length()}[what];
    }
}
