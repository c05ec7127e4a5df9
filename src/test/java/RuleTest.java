import com.sun.management.ThreadMXBean;
import com.sun.source.tree.ClassTree;
import com.sun.source.tree.CompilationUnitTree;
import com.sun.source.tree.MethodInvocationTree;
import com.sun.source.tree.MethodTree;
import com.sun.source.tree.NewArrayTree;
import com.sun.source.tree.NewClassTree;
import com.sun.source.tree.WhileLoopTree;
import com.sun.source.util.JavacTask;
import com.sun.source.util.TreePathScanner;
import com.sun.source.util.Trees;
import java.io.IOException;
import java.lang.management.ManagementFactory;
import java.lang.reflect.Array;
import java.lang.reflect.Field;
import java.lang.reflect.Modifier;
import java.nio.file.Path;
import java.util.Collections;
import java.util.IdentityHashMap;
import java.util.LinkedHashMap;
import java.util.LinkedHashSet;
import java.util.List;
import java.util.Map;
import java.util.Set;
import java.util.TreeSet;
import javax.lang.model.element.Element;
import javax.lang.model.element.ElementKind;
import javax.tools.JavaCompiler;
import javax.tools.StandardJavaFileManager;
import javax.tools.ToolProvider;

/** Rules of LANGUAGE.md that need the compiler's own reading of the class: who calls whom, and what is made where. */
public final class RuleTest {
    private static final Set<String> LIBRARY = Set.of("java.lang.String.length", "java.lang.String.charAt",
        "java.lang.Integer.bitCount", "java.lang.Math.abs", "java.lang.Math.max", "java.lang.Math.min",
        "java.lang.System.arraycopy", "java.lang.Object.<init>", "java.util.NoSuchElementException.<init>");
    private static final int DEEP = 8;
    private static final int OBJECTS_IN_ROOM = 600_000;
    private static final int ELEMENTS_IN_ROOM = 7_300_000;

    private final Map<String, Set<String>> calls = new LinkedHashMap<>();
    private final Set<String> library = new TreeSet<>();
    private final Set<String> makers = new TreeSet<>();

    public static void main(String[] args) throws IOException, IllegalAccessException {
        RuleTest rules = new RuleTest();
        rules.read(Path.of("src/main/java/KnockLane.java"));
        rules.libraryIsListed();
        rules.callsAreNotDeep();
        rules.onlyConstructorsMake();
        callsMakeNothing();
        objectsAreSmall();
        Check.finish("RuleTest");
    }

    private void read(Path file) throws IOException {
        JavaCompiler compiler = ToolProvider.getSystemJavaCompiler();
        try (StandardJavaFileManager files = compiler.getStandardFileManager(null, null, null)) {
            JavacTask task = (JavacTask) compiler.getTask(null, files, null, List.of("-proc:none"), null,
                files.getJavaFileObjects(file));
            CompilationUnitTree unit = task.parse().iterator().next();
            task.analyze();
            new Scan(Trees.instance(task)).scan(unit, null);
        }
    }

    private final class Scan extends TreePathScanner<Void, Void> {
        private final Trees trees;
        private String owner = "";
        private String method = "";

        Scan(Trees trees) {
            this.trees = trees;
        }

        @Override
        public Void visitClass(ClassTree c, Void v) {
            String outer = owner;
            owner = trees.getElement(getCurrentPath()).toString();
            super.visitClass(c, v);
            owner = outer;
            return null;
        }

        @Override
        public Void visitMethod(MethodTree m, Void v) {
            method = owner + "." + m.getName();
            Check.due("one method of a name in " + method, calls.containsKey(method), false);
            calls.put(method, new LinkedHashSet<>());
            super.visitMethod(m, v);
            method = "";
            return null;
        }

        @Override
        public Void visitMethodInvocation(MethodInvocationTree call, Void v) {
            note(trees.getElement(getCurrentPath()));
            return super.visitMethodInvocation(call, v);
        }

        @Override
        public Void visitNewClass(NewClassTree made, Void v) {
            Element constructor = trees.getElement(getCurrentPath());
            note(constructor);
            if (!constructor.getEnclosingElement().toString().endsWith("Exception")) {
                makers.add(method);
            }
            return super.visitNewClass(made, v);
        }

        @Override
        public Void visitNewArray(NewArrayTree made, Void v) {
            makers.add(method);
            return super.visitNewArray(made, v);
        }

        @Override
        public Void visitWhileLoop(WhileLoopTree loop, Void v) {
            Check.due("a while with a bound in " + method, loop.getCondition().toString().contains("<"), true);
            return super.visitWhileLoop(loop, v);
        }

        private void note(Element called) {
            String name = called.getEnclosingElement() + "." + called.getSimpleName();
            if (!name.startsWith("KnockLane")) {
                library.add(name);
            } else if (called.getKind() == ElementKind.METHOD && !method.isEmpty()) {
                calls.get(method).add(name);
            }
        }
    }

    private void libraryIsListed() {
        Check.says("The library: only what stands here.");
        for (String name : library) {
            Check.due("LANGUAGE.md has " + name, LIBRARY.contains(name), true);
        }
        Check.due("calls of the library were found", library.size() >= 5, true);
    }

    private void callsAreNotDeep() {
        Check.says("calls that are no recursion go at most eight deep");
        Check.due("methods were found", calls.size() > 100, true);
        for (String method : calls.keySet()) {
            Set<String> open = new LinkedHashSet<>();
            Check.due("not too deep from " + method, deepest(method, open) <= DEEP, true);
        }
    }

    /** The longest way down in which no method stands twice. */
    private int deepest(String method, Set<String> open) {
        if (!open.add(method)) {
            return 0;
        }
        int most = 0;
        for (String next : calls.getOrDefault(method, Set.of())) {
            most = Math.max(most, deepest(next, open));
        }
        open.remove(method);
        return most + 1;
    }

    private void onlyConstructorsMake() {
        Check.says("make rows in constructors and use them again");
        makers.remove("");
        for (String method : makers) {
            boolean once = method.endsWith("<init>") || method.equals("KnockLane.Tape.codesOfWords");
            Check.due("makes nothing: " + method, once, true);
        }
    }

    /** The bytes that this thread has asked for tell it without a look at the class. */
    private static void callsMakeNothing() {
        Check.says("All calls of one run live in ONE room");
        KnockLane x = Check.lane("house h 5;house g 6;person a h 5 up kind;" + Check.tramps("bcdef", 5) + "calls b h;");
        ThreadMXBean thread = (ThreadMXBean) ManagementFactory.getThreadMXBean();
        callMost(x);
        long before = thread.getCurrentThreadAllocatedBytes();
        for (int i = 0; i < 20; i++) {
            callMost(x);
        }
        long made = thread.getCurrentThreadAllocatedBytes() - before;
        Check.due("twenty rounds of calls make next to nothing: " + made, made < 20_000, true);
    }

    private static void callMost(KnockLane x) {
        x.feed(0x6f662068, 0x206f7220, 0x73746572, 0x6e202020, 0x20202020);
        x.sentence();
        x.said(0);
        x.feed(0x7469636b, 0x20333b20, 0x20202020, 0x20202020, 0x20202020);
        x.book(1);
        x.feed(0x01000000, 0, 0, 0, 0);
        x.end(2);
        x.who();
        x.knock(2, 0);
        x.ticks(2);
        x.drawn(5, 7);
        x.undo();
        x.most();
        x.chain(0, 3);
        x.known();
        x.meet(0, 5);
        x.odds(1, 30, 4);
        x.tag(1);
        x.image(0);
        x.restore(0);
        x.feed(0x20202020, 0x20202020, 0x20202020, 0x20202020, 0x20202020);
        x.quarter();
        x.restore(0);
    }

    private static void objectsAreSmall() throws IllegalAccessException {
        Check.says("some 600,000 objects and arrays, 7.3 million fields and elements in all");
        Set<Object> found = Collections.newSetFromMap(new IdentityHashMap<>());
        long elements = count(new KnockLane(), found);
        Check.due("a thousand new objects fit: " + found.size(), found.size() <= OBJECTS_IN_ROOM / 1000, true);
        Check.due("by fields and elements too: " + elements, elements <= ELEMENTS_IN_ROOM / 1000, true);
        Check.due("rows were found", found.size() > 100, true);
    }

    /** Fields and elements of an object or a row and of all that it leads to, each once. */
    private static long count(Object o, Set<Object> found) throws IllegalAccessException {
        if (o == null || o instanceof String || !found.add(o)) {
            return 0;
        }
        long sum = 0;
        if (o.getClass().isArray()) {
            sum = Array.getLength(o);
            for (int i = 0; i < Array.getLength(o) && !o.getClass().getComponentType().isPrimitive(); i++) {
                sum += count(Array.get(o, i), found);
            }
            return sum;
        }
        for (Field f : o.getClass().getDeclaredFields()) {
            if (!Modifier.isStatic(f.getModifiers())) {
                f.setAccessible(true);
                sum += 1 + (f.getType().isPrimitive() ? 0 : count(f.get(o), found));
            }
        }
        return sum;
    }
}
