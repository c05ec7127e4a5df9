import java.util.ArrayList;
import java.util.Collections;
import java.util.List;
import java.util.Random;

/** Promises 1 to 39 by many runs of drawn calls, each answer held against the plain Model's. */
public final class ModelTest {
    private static final String[] HOUSES = {"h", "g", "mill", "inn", "barn", "forge", "oldhouse", "well"};
    private static final String[] PERSONS = {"a", "b", "cid", "dan", "eve", "fay", "gus", "hal", "isabella", "jo"};
    private static final int RUNS = 3000;
    private static final int CALLS = 512;

    private final Random r;
    private final int run;
    private final KnockLane x = new KnockLane();
    private final Model m = new Model();
    private int calls = 0;

    private ModelTest(int run) {
        this.run = run;
        r = new Random(run);
    }

    public static void main(String[] args) {
        int first = args.length > 0 ? Integer.parseInt(args[0]) : 1;
        for (int run = first; run < first + RUNS; run++) {
            new ModelTest(run).go();
        }
        Check.finish("ModelTest");
    }

    private void due(String call, long got, long want) {
        calls++;
        Check.due("run " + run + ", call " + calls + ": " + call, got, want);
    }

    private void due(String call, boolean got, boolean want) {
        due(call, got ? 1 : 0, want ? 1 : 0);
    }

    private int any(int n) {
        return r.nextInt(n);
    }

    private boolean oneIn(int n) {
        return r.nextInt(n) == 0;
    }

    private String pick(String... words) {
        return words[any(words.length)];
    }

    private void go() {
        if (!oneIn(30)) {
            tell(oneIn(8) ? quarterText() : goodQuarterText(), 0);
        }
        if (oneIn(12)) {
            for (int i = 0; i < 16; i++) {
                due("ticks(60)", x.ticks(60), m.ticks(60));
            }
        }
        while (calls < CALLS - 60) {
            step();
        }
    }

    private void feed(String text) {
        int before = m.count(5);
        for (int i = 0; i < text.length(); i += 20) {
            int[] f = new int[5];
            for (int k = 0; k < 20; k++) {
                int b = i + k < text.length() ? text.charAt(i + k) & 255 : 0;
                f[k / 4] |= b << 24 - 8 * (k % 4);
            }
            due("feed", x.feed(f[0], f[1], f[2], f[3], f[4]), m.feed(f[0], f[1], f[2], f[3], f[4]));
        }
        int n = before + text.length();
        due("end(" + n + ")", x.end(n), m.end(n));
    }

    /** kind 0: quarter, 1: sentence, 2 and 3: book. */
    private void tell(String text, int kind) {
        feed(text);
        if (kind == 0) {
            due("quarter() of " + text, x.quarter(), m.quarter());
        } else if (kind == 1) {
            due("sentence() of " + text, x.sentence(), m.sentence());
        } else {
            due("book(" + (kind - 2) + ") of " + text, x.book(kind - 2), m.book(kind - 2));
            for (int w = 0; w < 4; w++) {
                due("told(" + w + ")", x.told(w), m.told(w));
            }
        }
        due("fault()", x.fault(), m.fault());
    }

    private int p() {
        return oneIn(12) ? any(12) - 2 : any(Math.max(1, m.count(1)));
    }

    private int h() {
        return oneIn(12) ? any(10) - 2 : any(Math.max(1, m.count(0)));
    }

    private void step() {
        int p = p();
        int q = p();
        int h = h();
        int n = any(5);
        switch (any(40)) {
            case 0: due("go " + p + " " + n, x.go(p, n - 1), m.go(p, n - 1)); break;
            case 1: case 2: case 3: knockAtHome(p); break;
            case 4: due("knock " + p + " " + h, x.knock(p, h), m.knock(p, h)); break;
            case 5: due("quit " + p, x.quit(p), m.quit(p)); break;
            case 6: due("meets " + p + " " + q, x.meets(p, q), m.meets(p, q)); break;
            case 7: case 8: due("calls " + p + " " + h, x.calls(p, h), m.calls(p, h)); break;
            case 9: case 10: case 11: tickSome(); break;
            case 12: due("undo", x.undo(), m.undo()); break;
            case 13: case 18: case 33: allWhoKnock(p); break;
            case 14: mostOf(); break;
            case 15: chainOf(p, q); break;
            case 16: case 17: whoOf(); break;
            case 19: due("known", x.known(), m.known()); break;
            case 20: due("meet " + p + " " + q, x.meet(p, q), m.meet(p, q)); break;
            case 21: due("busiest", x.busiest(), m.busiest()); break;
            case 22: due("mean " + (n - 1), Check.mean(x, n - 1), m.mean(n - 1)); break;
            case 23: tagOf(p); break;
            case 24: drawSome(); break;
            case 25: oddsOf(p); break;
            case 26: tell(bookText(), 2 + any(2)); break;
            case 27: due("book 2", x.book(any(3) - 1 == 0 ? 2 : -1), m.book(2)); break;
            case 28: tell(sentenceText(), 1); break;
            case 29: due("image", x.image(n - 1), m.image(n - 1)); break;
            case 30: due("restore", x.restore(n - 1), m.restore(n - 1)); break;
            case 31: oneInQuarter(); break;
            case 32: due("ticks", x.ticks(any(3) == 0 ? 61 : 0), m.ticks(0)); break;
            default: look(p, h); break;
        }
        look(p, h);
    }

    private void oneInQuarter() {
        if (oneIn(4)) {
            tell(oneIn(2) ? quarterText() : goodQuarterText(), 0);
        } else {
            int n = any(30) - 3;
            due("end " + n, x.end(n), m.end(n));
        }
    }

    /** A knock that mostly can be: at a HOUSE where he is. */
    private void knockAtHome(int p) {
        for (int h = 0; h < m.count(0); h++) {
            if (m.house(h, 0) == m.person(p, 1)) {
                due("knock " + p + " " + h, x.knock(p, h), m.knock(p, h));
            }
        }
    }

    private void allWhoKnock(int p) {
        for (int k = 0; k < 8; k++) {
            if (k == p || (m.now(2) >> k & 1) == 1) {
                due("answer " + k, x.answer(k), m.answer(k));
                due("opens " + k, x.opens(k), m.opens(k));
            }
        }
        mostOf();
    }

    private void tickSome() {
        int n = oneIn(4) ? 1 + any(60) : 1 + any(3);
        due("ticks " + n, x.ticks(n), m.ticks(n));
    }

    private void drawSome() {
        int n = oneIn(3) ? any(63) : 1 + any(4);
        int seed = r.nextInt();
        due("drawn " + n + " " + seed, x.drawn(n, seed), m.drawn(n, seed));
    }

    private void oddsOf(int p) {
        int n = any(33);
        int seed = oneIn(5) ? Integer.MAX_VALUE - 2 : r.nextInt();
        due("odds " + p + " " + n + " " + seed, x.odds(p, n, seed), m.odds(p, n, seed));
    }

    private void mostOf() {
        due("those", x.those(), m.those());
        due("most", x.most(), m.most());
        due("those", x.those(), m.those());
    }

    private void chainOf(int p, int q) {
        due("chain " + p + " " + q, x.chain(p, q), m.chain(p, q));
        for (int k = -1; k < 9; k++) {
            due("chainAt " + k, x.chainAt(k), m.chainAt(k));
        }
    }

    private void whoOf() {
        StringBuilder t = new StringBuilder();
        int pairs = oneIn(8) ? any(9) : 1 + any(2);
        for (int i = 0; i < pairs; i++) {
            t.append((char) Math.max(0, p())).append((char) (oneIn(20) ? 2 + any(250) : any(2)));
        }
        if (oneIn(20)) {
            t.append((char) any(3));
        }
        feed(t.toString());
        due("who of " + t.toString().chars().boxed().toList(), x.who(), m.who());
        due("ask", x.ask(), m.ask());
    }

    private void tagOf(int p) {
        due("tag " + p, x.tag(p), m.tag(p));
        for (int i = -1; i < 29; i += 1 + any(3)) {
            due("byteAt " + i, x.byteAt(i), m.byteAt(i));
        }
    }

    private void look(int p, int h) {
        int w = any(12);
        due("person " + p + " " + w, Check.person(x, p, w), m.person(p, w));
        w = any(10) - 1;
        due("now " + w, x.now(w), m.now(w));
        w = any(7) - 1;
        due("house " + h + " " + w, x.house(h, w), m.house(h, w));
        due("count " + w, x.count(w), m.count(w));
        int k = any(14) - 1;
        w = any(4) - 1;
        due("call " + k + " " + w, x.call(k, w), m.call(k, w));
        k = any(11) - 2;
        due("said " + k, x.said(k), m.said(k));
    }

    private String gap() {
        return oneIn(30) ? "" : oneIn(20) ? "\n " : " ";
    }

    /** A QUARTER without a FAULT, as the Model sees it, with some PERSONS in it. */
    private String goodQuarterText() {
        String text = "";
        for (int tries = 0; tries < 200; tries++) {
            text = quarterText();
            Model good = new Model();
            for (int i = 0; i < text.length(); i += 4) {
                int four = 0;
                for (int k = 0; k < 4; k++) {
                    four = four << 8 | (i + k < text.length() ? text.charAt(i + k) & 255 : ' ');
                }
                good.feed(four, 0x20202020, 0x20202020, 0x20202020, 0x20202020);
                good.end(Math.min(text.length(), i + 4));
            }
            if (good.quarter() >= 0 && good.count(1) > 2) {
                return text;
            }
        }
        return text;
    }

    private String quarterText() {
        List<String> lines = new ArrayList<>();
        int places = 10;
        if (oneIn(2)) {
            places = oneIn(15) ? any(25) : 2 + any(5);
            lines.add("lane" + gap() + places);
        }
        int houses = oneIn(15) ? 7 : any(7);
        int persons = oneIn(15) ? 9 : any(9);
        List<String> rest = new ArrayList<>();
        for (int i = 0; i < houses; i++) {
            rest.add("house " + HOUSES[i] + gap() + any(places + (oneIn(30) ? 2 : 0) + (places == 0 ? 1 : 0)));
        }
        for (int i = 0; i < persons; i++) {
            String home = houses == 0 || oneIn(2) ? "tramp" : HOUSES[any(Math.min(houses, oneIn(20) ? 8 : 6))];
            rest.add("person " + PERSONS[i] + " " + home + " " + any(Math.max(1, places)) + gap()
                + pick("up", "down", "stands") + " " + pick("kind", "kind", "stern"));
        }
        if (oneIn(5)) {
            Collections.shuffle(rest, r);
        }
        lines.addAll(rest);
        addPairs(lines, houses, persons);
        if (oneIn(2)) {
            lines.add(any(lines.size() + 1), "ear " + any(oneIn(20) ? 12 : 10));
        }
        if (oneIn(2)) {
            lines.add(any(lines.size() + 1), "stay " + (oneIn(20) ? any(34) : 1 + any(5)));
        }
        return spoil(lines, 900);
    }

    private void addPairs(List<String> lines, int houses, int persons) {
        int knows = persons < 2 ? 0 : any(4);
        for (int i = 0; i < knows; i++) {
            lines.add("knows " + PERSONS[any(persons)] + " " + PERSONS[any(persons)]);
        }
        int calls = persons < 1 || houses < 1 ? 0 : oneIn(4) ? 10 + any(5) : any(6);
        for (int i = 0; i < calls; i++) {
            int k = calls > 5 ? i : any(48);
            lines.add("calls " + PERSONS[k % persons] + " " + HOUSES[k / persons % houses]);
        }
    }

    /** Mostly the text as it is; else with a place in it gone, doubled, or other than it should be. */
    private String spoil(List<String> lines, int most) {
        if (oneIn(12) && !lines.isEmpty()) {
            lines.add(lines.get(any(lines.size())));
        }
        StringBuilder t = new StringBuilder();
        for (String line : lines) {
            t.append(line).append(oneIn(10) ? " ; " : ";");
        }
        if (oneIn(12)) {
            while (t.length() < most - 3 + any(6)) {
                t.insert(t.length() == 0 || oneIn(2) ? t.length() : Math.max(0, t.indexOf(";")), oneIn(9) ? "  " : " ");
            }
        }
        if (oneIn(6) && t.length() > 0) {
            int at = any(t.length());
            switch (any(4)) {
                case 0: t.deleteCharAt(at); break;
                case 1: t.insert(at, pick(";", "<", "(", ")", "1", "x", "tick ", " or ", "0000", ".", "\u00e9", "\u0001")); break;
                case 2: t.setLength(at); break;
                default: t.setCharAt(at, (char) any(256)); break;
            }
        }
        if (t.length() > 940) {
            t.setLength(940);
        }
        return t.toString();
    }

    private String bookText() {
        List<String> lines = new ArrayList<>();
        int n = oneIn(8) ? 38 + any(5) : any(8);
        for (int i = 0; i < n; i++) {
            String p = name(PERSONS, m.count(1));
            if (n > 30) {
                lines.add(oneIn(30) ? "tick 60" : "tick 1");
                continue;
            }
            switch (any(9)) {
                case 0: lines.add(p + " goes " + pick("up", "down", "stands")); break;
                case 1: lines.add(p + " quits"); break;
                case 2: lines.add(p + " meets " + name(PERSONS, m.count(1))); break;
                case 3: case 4: lines.add(p + " calls " + name(HOUSES, m.count(0))); break;
                case 5: lines.add(p + " knocks " + name(HOUSES, m.count(0))); break;
                default: lines.add("tick " + (oneIn(10) ? any(70) : 1 + any(6))); break;
            }
        }
        return spoil(lines, 400);
    }

    private String name(String[] names, int n) {
        return oneIn(80) ? pick(names) : names[any(Math.max(1, n))];
    }

    private String sentenceText() {
        String text = condText(oneIn(8) ? 9 : 4);
        List<String> one = new ArrayList<>();
        one.add(text);
        String t = spoil(one, 200);
        return t.endsWith(";") && !oneIn(20) ? t.substring(0, t.length() - 1) : t;
    }

    private String condText(int depth) {
        StringBuilder t = new StringBuilder(oneText(depth));
        int more = oneIn(10) ? any(9) : any(3);
        for (int i = 0; i < more; i++) {
            t.append(pick(" and ", " or ")).append(oneText(depth));
        }
        return t.toString();
    }

    private String oneText(int depth) {
        if (depth > 0 && (oneIn(3) || depth > 4)) {
            return oneIn(2) ? "not " + oneText(depth - 1) : "(" + condText(oneIn(2) ? depth - 1 : 0) + ")";
        }
        switch (any(8)) {
            case 0: return pick("walking", "knocking", "inside", "stern");
            case 1: return "knows " + name(PERSONS, m.count(1));
            case 2: return "of " + name(HOUSES, m.count(0));
            default: return pick("place", "known", "waited", "number") + gap() + pick("<", "=", ">") + gap() + any(6);
        }
    }
}
