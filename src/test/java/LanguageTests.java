import java.lang.reflect.Constructor;
import java.lang.reflect.Field;
import java.lang.reflect.Method;
import java.lang.reflect.Modifier;
import java.nio.charset.StandardCharsets;
import java.nio.file.Files;
import java.nio.file.Path;
import java.util.ArrayList;
import java.util.Arrays;
import java.util.HashSet;
import java.util.IdentityHashMap;
import java.util.List;
import java.util.Map;
import java.util.Set;
import java.util.TreeSet;
import java.util.regex.Matcher;
import java.util.regex.Pattern;

/** What of ../shared/LANGUAGE.md and of the document's face can be seen from the source and the class. */
public final class LanguageTests {
    private static final String SOURCE = "src/main/java/PlanMemo.java";
    private static final Set<String> FACE = new TreeSet<>(Arrays.asList(
        "int row(int,int,int)", "int set(int,int,long)", "int copy(int,int,int,int,int)", "long element(int,int)",
        "int show(int,int)", "int holds(int)", "int says(int,int)", "int table(int,int,int,int)", "int tableOf(int,int)",
        "int distinct(int,int)", "int scan(int)", "int keep(int,int)", "int tally(int,int)", "int join(int,int,int)",
        "int half(int,int,int)", "int read(int)", "int fault()", "int same(int,int)", "int groupOf(int)",
        "int group(int,int)", "int expression(int,int)", "int explore(int)", "int next(int)", "int fired(int)",
        "int allow(int,boolean)", "long cost(int,int,int)", "long costBy(int,int,int)", "int demands(int,int,int)",
        "int within(int,int,int)", "int where(int,int)", "long worth(int,int,int,int)", "int plan(int,int,int)",
        "int planAt(int,int)", "long planCost(int)", "int spell(int)", "int trees(int,int)", "long price(int,int,int,int)",
        "int trace(int)", "int deal(int)", "int seed(int)", "int image()", "int restore()", "int status(int)"));
    // Rules 2 to 6, 9, 10 and 13: what no line of the program may have, as far as it can be seen line by line.
    private static final String[] FORBIDDEN = {
        "\\b(throw|throws|try|catch|finally|synchronized|assert)\\b", "(?<!case [\\w, ]{1,40}|default) ->", "::", "\\bvar\\b",
        "\\b(protected|strictfp|native|transient|volatile)\\b", "\\b(Object|Long|Short|Byte|Character|Boolean|Double|Float)\\b(?!\\.)",
        "\\bSystem\\.(?!arraycopy\\b)", "\\bArrays\\.(?!(fill|copyOf|copyOfRange)\\b)",
        "\\bMath\\.(?!(abs|max|min|floorDiv|floorMod)\\b)", "\\bInteger\\.(?!(compare|max|min|bitCount|MAX_VALUE|MIN_VALUE)\\b)",
        "\\bLong\\.(?!(compare|max|min|bitCount|MAX_VALUE|MIN_VALUE)\\b)", "\\bList\\.(?!of\\b)",
        "\\b(Character|Boolean|Thread|Runtime|Class|Random|Scanner|Collections|Objects|Optional|Stream|Map|Set|HashMap|HashSet)\\b",
        "\\bstatic\\s*\\{", "@", "^import (?!java\\.util\\.(ArrayList|Arrays|List|Iterator);)", "^package\\b", "\\bfor \\(;;\\)",
        "\\bwhile \\(true\\)", "\"\\s*\\+|\\+\\s*\"", "\\bnew \\w+(<\\w*>)?\\([^)]*\\) \\{", "\\.(hashCode|toString|getClass)\\("};
    private static final int MOST_OBJECTS = 600_000;
    private static final long MOST_ELEMENTS = 7_300_000;
    private static final int RUNS = 5;
    private static int wrong = 0;

    private static void must(boolean holds, String what) {
        if (!holds) {
            wrong++;
            System.out.println("not so: " + what);
        }
    }

    private static void wordsOfSource(String bare) {
        String[] lines = bare.split("\n", -1);
        for (int i = 0; i < lines.length; i++) {
            for (String forbidden : FORBIDDEN) {
                must(!Pattern.compile(forbidden).matcher(lines[i]).find(),
                    "line " + (i + 1) + " has no " + forbidden + ": " + lines[i]);
            }
        }
        for (char c : bare.toCharArray()) {
            must(c == '\n' || c >= 32 && c < 127, "all signs are plain");
        }
    }

    /** Methods stay short: from a line that opens one to the line that closes it, by their indents. */
    private static void methodsOfSource(String bare) {
        String[] lines = bare.split("\n", -1);
        Pattern opening = Pattern.compile("^(    |        )(?!class|static final class|private static final class)"
            + "[A-Za-z].*\\b(\\w+)\\(([^)]*)\\) \\{$");
        for (int i = 0; i < lines.length; i++) {
            Matcher m = opening.matcher(lines[i]);
            if (m.matches()) {
                int end = i;
                while (end < lines.length && !lines[end].equals(m.group(1) + "}")) {
                    end++;
                }
                must(end - i <= 60, m.group(2) + " has " + (end - i) + " lines");
                must(m.group(3).split(",").length <= 7, m.group(2) + " takes seven parameters at most");
            }
        }
    }

    private static String signature(Method m) {
        StringBuilder text = new StringBuilder(m.getReturnType().getName() + " " + m.getName() + "(");
        for (int i = 0; i < m.getParameterCount(); i++) {
            text.append(i == 0 ? "" : ",").append(m.getParameterTypes()[i].getName());
        }
        return text.append(")").toString();
    }

    private static void face() {
        Class<?> c = PlanMemo.class;
        must(Modifier.isPublic(c.getModifiers()) && Modifier.isFinal(c.getModifiers()), "the class is public and final");
        must(c.getSuperclass() == Object.class && c.getInterfaces().length == 0, "it stands under nothing");
        Set<String> found = new TreeSet<>();
        Set<String> names = new HashSet<>();
        for (Method m : c.getDeclaredMethods()) {
            if (Modifier.isPublic(m.getModifiers())) {
                must(!Modifier.isStatic(m.getModifiers()), m + " is of an object");
                found.add(signature(m));
                names.add(m.getName());
            } else {
                must(Modifier.isPrivate(m.getModifiers()) || m.isSynthetic(), m + " is private");
            }
        }
        must(found.equals(FACE), "the methods are those of the face: " + found);
        for (Field f : c.getDeclaredFields()) {
            boolean none = f.getName().equals("NONE");
            must(none ? Modifier.isPublic(f.getModifiers()) : Modifier.isPrivate(f.getModifiers()), f + " is private");
        }
        Constructor<?>[] constructors = c.getDeclaredConstructors();
        must(constructors.length == 1 && constructors[0].getParameterCount() == 0, "one constructor, of nothing");
        inside(c, names);
    }

    private static void inside(Class<?> c, Set<String> names) {
        Class<?>[] nested = c.getDeclaredClasses();
        must(nested.length + 1 <= 12, "the file has some twelve classes: " + (nested.length + 1));
        List<Class<?>> all = new ArrayList<>(Arrays.asList(nested));
        for (Class<?> n : nested) {
            must(Modifier.isStatic(n.getModifiers()), n + " is static");
            must(!Modifier.isPublic(n.getModifiers()) && !Modifier.isProtected(n.getModifiers()), n + " is not public");
            must(n.getDeclaredClasses().length == 0, n + " has no classes inside");
            for (Method m : n.getDeclaredMethods()) {
                must(!names.contains(m.getName()), m + " bears no name of the face");
                must(m.getParameterCount() <= 7, m + " takes seven parameters at most");
            }
        }
        all.add(c);
        for (Class<?> n : all) {
            int fields = 0;
            for (Field f : n.getDeclaredFields()) {
                if (Modifier.isStatic(f.getModifiers())) {
                    must(Modifier.isFinal(f.getModifiers()), f + " is final");
                } else {
                    fields++;
                }
            }
            must(fields <= 20, n + " has twenty fields at most: " + fields);
        }
        for (Method m : c.getDeclaredMethods()) {
            must(Modifier.isPublic(m.getModifiers()) || !names.contains(m.getName()), m + " bears no name of the face");
        }
    }

    /**
     * All that the calls of one run make lives in one room, what the library makes too. An object takes
     * 16 bytes at least, a field or element one: as long as a run makes fewer bytes than there may be of
     * elements, it makes neither too many objects nor too many elements.
     */
    private static void room() throws IllegalAccessException {
        Map<Object, Boolean> seen = new IdentityHashMap<>();
        long elements = walk(new PlanMemo(), seen);
        must(seen.size() <= MOST_OBJECTS / 20, "a run can have some objects: one is of " + seen.size());
        must(elements <= MOST_ELEMENTS / 20, "a run can have some objects: one is of " + elements + " elements");
        java.lang.management.ThreadMXBean plain = java.lang.management.ManagementFactory.getThreadMXBean();
        if (!(plain instanceof com.sun.management.ThreadMXBean)) {
            return;
        }
        com.sun.management.ThreadMXBean bean = (com.sun.management.ThreadMXBean) plain;
        for (int run = 0; run < RUNS; run++) {
            dearestCalls(run);
            long ahead = bean.getThreadAllocatedBytes(Thread.currentThread().getId());
            dearestCalls(run);
            long bytes = bean.getThreadAllocatedBytes(Thread.currentThread().getId()) - ahead;
            must(bytes < MOST_ELEMENTS, "512 calls of run " + run + " have room: " + bytes + " bytes");
        }
    }

    /** 512 calls of the dearest kinds, on an object that is as full as can be. */
    private static void dearestCalls(int run) {
        PlanMemo m = new PlanMemo();
        m.table(1000, 15, 0, 4);
        m.scan(0);
        for (int e = 1; e < 64; e++) {
            m.join(e % 4, e - 1, 0);
        }
        m.image();
        m.row(0, 0, 160);
        for (int i = 0; i < 220; i++) {
            switch (run) {
                case 0:
                    m.distinct(0, 1 + i);
                    m.worth(63, 0, 0, 4);
                    break;
                case 1:
                    m.explore(200);
                    m.restore();
                    break;
                case 2:
                    m.plan(6, i % 4, i % 5);
                    m.spell(0);
                    break;
                case 3:
                    m.read(0);
                    m.within(63, 0, 0);
                    break;
                default:
                    m.deal(20);
                    m.trees(63, 12);
                    break;
            }
        }
    }

    private static long walk(Object o, Map<Object, Boolean> seen) throws IllegalAccessException {
        if (o == null || seen.put(o, true) != null) {
            return 0;
        }
        if (o.getClass().isArray()) {
            long elements = java.lang.reflect.Array.getLength(o);
            if (o instanceof Object[]) {
                for (Object part : (Object[]) o) {
                    elements += walk(part, seen);
                }
            }
            return elements;
        }
        long elements = 0;
        for (Field f : o.getClass().getDeclaredFields()) {
            if (!Modifier.isStatic(f.getModifiers())) {
                elements++;
                if (!f.getType().isPrimitive()) {
                    f.setAccessible(true);
                    elements += walk(f.get(o), seen);
                }
            }
        }
        return elements;
    }

    public static void main(String[] args) throws Exception {
        Deadline.begin();
        String source = Files.readString(Path.of(SOURCE), StandardCharsets.UTF_8);
        String bare = source.replaceAll("(?s)/\\*.*?\\*/", "").replaceAll("//[^\n]*", "")
            .replaceAll("\"(\\\\.|[^\"\\\\])*\"", "\"\"").replaceAll("'(\\\\.|[^'\\\\])'", "' '");
        wordsOfSource(bare);
        methodsOfSource(bare);
        face();
        room();
        System.out.println(wrong == 0 ? "the rules that can be seen are kept" : wrong + " rules are not kept");
        if (wrong != 0) {
            System.exit(1);
        }
    }
}
