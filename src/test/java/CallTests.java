import com.sun.source.tree.ClassTree;
import com.sun.source.tree.CompilationUnitTree;
import com.sun.source.tree.MethodInvocationTree;
import com.sun.source.tree.MethodTree;
import com.sun.source.tree.NewClassTree;
import com.sun.source.util.JavacTask;
import com.sun.source.util.TreePath;
import com.sun.source.util.TreePathScanner;
import com.sun.source.util.Trees;
import java.io.File;
import java.io.IOException;
import java.util.Arrays;
import java.util.HashMap;
import java.util.HashSet;
import java.util.Map;
import java.util.Set;
import java.util.TreeMap;
import java.util.TreeSet;
import javax.lang.model.element.Element;
import javax.lang.model.element.ElementKind;
import javax.lang.model.element.TypeElement;
import javax.tools.JavaCompiler;
import javax.tools.StandardJavaFileManager;
import javax.tools.ToolProvider;

/** Rules 4, 8 and 11 of ../shared/LANGUAGE.md: which calls of the library stand in the program, and how deep its own go. */
public final class CallTests {
    private static final String SOURCE = "src/main/java/PlanMemo.java";
    private static final int DEEPEST = 8;
    private static final Set<String> LIBRARY = new HashSet<>(Arrays.asList(
        "String.length", "String.charAt", "String.isEmpty", "String.equals", "String.indexOf", "String.substring", "String.toCharArray",
        "StringBuilder.append", "StringBuilder.charAt", "StringBuilder.setCharAt", "StringBuilder.setLength", "StringBuilder.deleteCharAt",
        "StringBuilder.reverse", "StringBuilder.length", "StringBuilder.toString", "ArrayList.add", "ArrayList.get", "ArrayList.set",
        "ArrayList.remove", "ArrayList.size", "ArrayList.isEmpty", "ArrayList.clear", "List.add", "List.get", "List.set", "List.remove",
        "List.size", "List.isEmpty", "List.clear", "List.of", "Integer.compare", "Integer.max", "Integer.min", "Integer.bitCount",
        "Long.compare", "Long.max", "Long.min", "Long.bitCount", "Math.max", "Math.min", "Math.abs", "Math.floorDiv", "Math.floorMod",
        "System.arraycopy", "Arrays.copyOf", "Arrays.copyOfRange", "Arrays.fill"));
    private static int wrong = 0;

    private CallTests() {
    }

    private static void must(boolean holds, String what) {
        if (!holds) {
            wrong++;
            System.out.println("not so: " + what);
        }
    }

    /** For each method or constructor of the program those that it calls. */
    private static final class Calls extends TreePathScanner<Void, Void> {
        private final Trees trees;
        private final Map<String, Set<String>> all = new TreeMap<>();
        private final Set<String> library = new TreeSet<>();
        private String caller = "";

        Calls(Trees trees) {
            this.trees = trees;
        }

        private static String name(Element called) {
            return called.getEnclosingElement().getSimpleName() + "." + called;
        }

        /** What a class does ahead of its constructor's own lines is told of its constructors. */
        @Override public Void visitClass(ClassTree node, Void nothing) {
            String outside = caller;
            caller = node.getSimpleName() + ".fields";
            all.computeIfAbsent(caller, c -> new TreeSet<>());
            super.visitClass(node, nothing);
            caller = outside;
            return null;
        }

        @Override public Void visitMethod(MethodTree node, Void nothing) {
            String outside = caller;
            Element method = trees.getElement(getCurrentPath());
            caller = name(method);
            Set<String> called = all.computeIfAbsent(caller, c -> new TreeSet<>());
            if (method.getKind() == ElementKind.CONSTRUCTOR) {
                called.add(outside);
            }
            super.visitMethod(node, nothing);
            caller = outside;
            return null;
        }

        @Override public Void visitMethodInvocation(MethodInvocationTree node, Void nothing) {
            called(trees.getElement(new TreePath(getCurrentPath(), node.getMethodSelect())));
            return super.visitMethodInvocation(node, nothing);
        }

        @Override public Void visitNewClass(NewClassTree node, Void nothing) {
            called(trees.getElement(getCurrentPath()));
            return super.visitNewClass(node, nothing);
        }

        private void called(Element method) {
            Element type = method.getEnclosingElement();
            boolean own = ((TypeElement) type).getQualifiedName().toString().startsWith("PlanMemo");
            if (own) {
                all.get(caller).add(name(method));
            } else if (method.getKind() == ElementKind.METHOD) {
                library.add(type.getSimpleName() + "." + method.getSimpleName());
            }
        }

        /** How many calls stand open at most where this one stands, itself too. */
        int deep(String method, Map<String, Integer> known, Set<String> open) {
            must(open.add(method), method + " calls itself, by way of " + open);
            if (!known.containsKey(method)) {
                int below = 0;
                known.put(method, 1);
                for (String called : all.getOrDefault(method, Set.of())) {
                    below = Math.max(below, deep(called, known, open));
                }
                known.put(method, below + (method.endsWith(".fields") ? 0 : 1));
            }
            open.remove(method);
            return known.get(method);
        }
    }

    public static void main(String[] args) throws IOException {
        Deadline.begin();
        JavaCompiler compiler = ToolProvider.getSystemJavaCompiler();
        StandardJavaFileManager files = compiler.getStandardFileManager(null, null, null);
        JavacTask task = (JavacTask) compiler.getTask(null, files, null, null, null, files.getJavaFileObjects(new File(SOURCE)));
        Iterable<? extends CompilationUnitTree> units = task.parse();
        task.analyze();
        Calls calls = new Calls(Trees.instance(task));
        for (CompilationUnitTree unit : units) {
            calls.scan(unit, null);
        }
        Map<String, Integer> known = new HashMap<>();
        int deepest = 0;
        for (String method : calls.all.keySet()) {
            int deep = calls.deep(method, known, new HashSet<>());
            must(deep <= DEEPEST, method + " goes " + deep + " deep");
            deepest = Math.max(deepest, deep);
        }
        for (String method : calls.library) {
            must(LIBRARY.contains(method) || method.endsWith("[].clone"), method + " is what the library offers");
        }
        must(calls.all.size() > 44, "the program's methods are seen");
        System.out.println(calls.all.size() + " methods, " + deepest + " deep at most, " + wrong + " rules not kept");
        if (wrong != 0) {
            System.exit(1);
        }
    }
}
