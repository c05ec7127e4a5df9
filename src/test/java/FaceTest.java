import java.io.IOException;
import java.lang.reflect.Constructor;
import java.lang.reflect.Field;
import java.lang.reflect.Method;
import java.lang.reflect.Modifier;
import java.nio.file.Files;
import java.nio.file.Path;
import java.util.ArrayList;
import java.util.Arrays;
import java.util.HashSet;
import java.util.List;
import java.util.Set;
import java.util.TreeSet;
import java.util.regex.Matcher;
import java.util.regex.Pattern;

/** The public face, and the rules of LANGUAGE.md that can be seen from outside or in the text. */
public final class FaceTest {
    private static final String[] FACE = {"feed 5", "end 1", "quarter 0", "fault 0", "house 2", "person 2", "call 2", "now 1",
        "knock 2", "go 2", "quit 1", "meets 2", "calls 2", "ticks 1", "undo 0", "answer 1", "most 0", "those 0", "chain 2",
        "chainAt 1", "who 0", "ask 0", "opens 1", "known 0", "meet 2", "busiest 0", "mean 1", "tag 1", "byteAt 1", "drawn 2",
        "odds 3", "book 1", "told 1", "sentence 0", "said 1", "image 1", "restore 1", "count 1"};
    private static final List<String> TRUE_OR_FALSE = List.of("end", "image", "restore");
    private static final List<String> THROW = List.of("person", "mean");

    public static void main(String[] args) throws IOException {
        theFace();
        classesInside();
        theText(Files.readString(Path.of("src/main/java/KnockLane.java")));
        extremes();
        Check.finish("FaceTest");
    }

    private static void theFace() {
        Class<?> c = KnockLane.class;
        Check.due("public and final", Modifier.toString(c.getModifiers()), "public final");
        Set<String> due = new TreeSet<>(Arrays.asList(FACE));
        Set<String> got = new TreeSet<>();
        for (Method m : c.getDeclaredMethods()) {
            if (!Modifier.isPrivate(m.getModifiers())) {
                got.add(m.getName() + " " + m.getParameterCount());
                Check.due("modifiers of " + m.getName(), Modifier.toString(m.getModifiers()), "public");
                Check.due("answer of " + m.getName(), m.getReturnType().toString(),
                    TRUE_OR_FALSE.contains(m.getName()) ? "boolean" : "int");
                Check.due("throws of " + m.getName(), Arrays.toString(m.getExceptionTypes()),
                    THROW.contains(m.getName()) ? "[class java.util.NoSuchElementException]" : "[]");
                for (Class<?> p : m.getParameterTypes()) {
                    Check.due("an argument of " + m.getName(), p.toString(), "int");
                }
            }
        }
        Check.due("the methods", got.toString(), due.toString());
        Constructor<?>[] made = c.getDeclaredConstructors();
        Check.due("constructors", made.length, 1);
        Check.due("the constructor", made[0].toString(), "public KnockLane()");
        for (Field f : c.getDeclaredFields()) {
            boolean isNone = f.getName().equals("NONE");
            Check.due("field " + f.getName(), Modifier.isPrivate(f.getModifiers()), !isNone);
        }
    }

    private static void classesInside() {
        Set<String> names = new HashSet<>();
        for (String m : FACE) {
            names.add(m.split(" ")[0]);
        }
        List<Class<?>> all = new ArrayList<>(Arrays.asList(KnockLane.class.getDeclaredClasses()));
        for (Class<?> c : all) {
            Check.due("static: " + c, Modifier.isStatic(c.getModifiers()) && !Modifier.isPublic(c.getModifiers()), true);
            Check.due("classes in " + c, c.getDeclaredClasses().length, 0);
        }
        all.add(KnockLane.class);
        Check.due("at most twelve classes", all.size() <= 12, true);
        for (Class<?> c : all) {
            int fields = 0;
            for (Field f : c.getDeclaredFields()) {
                if (Modifier.isStatic(f.getModifiers())) {
                    Check.due("final: " + f, Modifier.isFinal(f.getModifiers()), true);
                } else {
                    fields++;
                }
            }
            Check.due("at most twenty fields: " + c, fields <= 20, true);
            for (Method m : c.getDeclaredMethods()) {
                Check.due("at most seven arguments: " + m, m.getParameterCount() <= 7, true);
                boolean face = c == KnockLane.class && Modifier.isPublic(m.getModifiers());
                Check.due("a name of the face: " + m, !face && names.contains(m.getName()), false);
            }
        }
    }

    private static void theText(String text) {
        String code = text.replaceAll("(?s)/\\*.*?\\*/", "").replaceAll("//[^\n]*", "");
        String[] never = {"->", "::", "\\bcatch\\b", "\\btry\\b", "\\bfinally\\b", "\\bsynchronized\\b", "\\bassert\\b",
            "\\bpackage\\b", "\\bprotected\\b", "static \\{", "\\binstanceof\\b", "\\bvar\\b", "\\bdouble\\b", "\\bfloat\\b",
            "System\\.(?!arraycopy)", "Exact\\b", "hashCode", "toString", "\\bThread", "\" *\\+", "\\+ *\""};
        for (String n : never) {
            Check.due("in the text: " + n, Pattern.compile(n).matcher(code).find(), false);
        }
        Check.due("imports", code.split("\nimport |^import ").length - 1, 1);
        Check.due("import", code.contains("import java.util.NoSuchElementException;"), true);
        Matcher thrown = Pattern.compile("throw\\b[^;]*;").matcher(code);
        while (thrown.find()) {
            Check.due("thrown", thrown.group(), "throw new NoSuchElementException();");
        }
        int longest = 0;
        Matcher methods = Pattern.compile("(?ms)^( {4,8})[a-z][^\n=;]*\\) (?:throws \\w+ )?\\{\n.*?^\\1\\}").matcher(text);
        int found = 0;
        while (methods.find()) {
            found++;
            longest = Math.max(longest, methods.group().split("\n").length);
        }
        Check.due("methods were found", found > 100, true);
        Check.due("no method is longer than sixty lines", longest <= 60, true);
    }

    /** No argument, however far out, makes a call throw what the document does not tell. */
    private static void extremes() {
        int[] far = {Integer.MIN_VALUE, -1000, -2, -1, 0, 1, 7, 8, 9, 30, 31, 32, 33, 64, 939, 940, 1000, Integer.MAX_VALUE};
        String[] texts = {"", "house h 5;person a h 5 up kind;person b tramp 5 stands stern;calls b h;"};
        for (String text : texts) {
            for (int i : far) {
                KnockLane x = Check.lane(text);
                for (int j : far) {
                    callAll(x, i, j);
                }
                Check.due("no machine's exception", 0, 0);
            }
        }
    }

    private static void callAll(KnockLane x, int i, int j) {
        x.feed(i, j, i, j, i);
        x.house(i, j);
        Check.person(x, i, j);
        x.call(i, j);
        x.now(i);
        x.knock(i, j);
        x.go(i, j);
        x.quit(i);
        x.meets(i, j);
        x.calls(i, j);
        x.ticks(i);
        x.answer(i);
        x.most();
        x.chain(i, j);
        x.chainAt(i);
        x.opens(i);
        x.known();
        x.meet(i, j);
        Check.mean(x, i);
        x.tag(i);
        x.byteAt(i);
        x.drawn(i, j);
        x.odds(i, j, i);
        x.told(i);
        x.said(i);
        x.image(i);
        x.restore(j);
        x.count(i);
        x.end(i);
        x.who();
        x.feed(j, j, j, j, j);
        x.end(j);
        x.book(i);
        x.sentence();
        x.undo();
    }
}
