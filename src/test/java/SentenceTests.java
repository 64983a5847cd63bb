import java.io.IOException;
import java.lang.reflect.InvocationTargetException;
import java.lang.reflect.Method;
import java.nio.charset.StandardCharsets;
import java.nio.file.Files;
import java.nio.file.Path;
import java.util.ArrayList;
import java.util.Arrays;
import java.util.Comparator;
import java.util.List;
import java.util.Map;
import java.util.TreeMap;
import java.util.regex.Matcher;
import java.util.regex.Pattern;

/**
 * Runs each test of a sentence, looks that the document has that sentence, and that it has none that no
 * test is of.
 */
public final class SentenceTests {
    private static final int PROMISES = 44;
    private static final Path DOCUMENT = Path.of("../shared/DOC.md");
    private static final Class<?>[] TESTS = {ShelfBoundaries.class, TableBoundaries.class, ToldBoundaries.class,
        GroupBoundaries.class, TextBoundaries.class, RuleBoundaries.class, CostBoundaries.class,
        PlanBoundaries.class, RestBoundaries.class, TermSentences.class, PromiseSentences.class};
    // Headings, the lines of the calls, which LanguageTests asks for, and what sets texts apart.
    private static final Pattern NO_SENTENCE = Pattern.compile("## [^\n]*|==== [23]\\.[^\n]*|`[^`\n]*`:|```(text)?");
    private static final Pattern WORD = Pattern.compile("[A-Za-z0-9]");

    private SentenceTests() {
    }

    private static String part(String document, String in) {
        switch (in) {
            case "What it is":
                return between(document, "## What it is", "## The public face");
            case "Terms":
                return between(document, "## Terms", "==== 2. RULES");
            case "2. RULES":
                return between(document, "==== 2. RULES", "==== 3. DEMANDS");
            case "3. DEMANDS":
                return between(document, "==== 3. DEMANDS", "REFUSALS (");
            case "REFUSALS":
                return between(document, "REFUSALS (", "## Promise 1:");
            default:
                return between(document, "## " + in + ":", "\n## ");
        }
    }

    private static String between(String document, String from, String to) {
        int start = document.indexOf(from);
        int end = start < 0 ? -1 : document.indexOf(to, start + from.length());
        return start < 0 || end < 0 ? "" : document.substring(start, end);
    }

    /** What of a part of the document no test is of, with a gap where one is. */
    private static String untested(String part, List<String> quotes) {
        boolean[] quoted = new boolean[part.length()];
        for (String quote : quotes) {
            for (int at = part.indexOf(quote); at >= 0; at = part.indexOf(quote, at + 1)) {
                Arrays.fill(quoted, at, at + quote.length(), true);
            }
        }
        Matcher aside = NO_SENTENCE.matcher(part);
        while (aside.find()) {
            Arrays.fill(quoted, aside.start(), aside.end(), true);
        }
        StringBuilder rest = new StringBuilder();
        for (int i = 0; i < part.length(); i++) {
            rest.append(quoted[i] ? '\n' : part.charAt(i));
        }
        return rest.toString().replaceAll("\\s*\n\\s*", " .. ");
    }

    private static List<Method> tests() {
        List<Method> tests = new ArrayList<>();
        for (Class<?> c : TESTS) {
            for (Method m : c.getDeclaredMethods()) {
                if (m.isAnnotationPresent(Sentence.class)) {
                    tests.add(m);
                }
            }
        }
        tests.sort(Comparator.comparing((Method m) -> m.getDeclaringClass().getName()).thenComparing(Method::getName));
        return tests;
    }

    /** What a test throws is an answer that is wrong, and no end of the other tests. */
    private static void run(Method test) throws IllegalAccessException {
        test.setAccessible(true);
        try {
            test.invoke(null);
        } catch (InvocationTargetException thrown) {
            Check.due(test.getName() + ", which threw " + thrown.getCause() + ", and", 1, 0);
        }
    }

    public static void main(String[] args) throws IOException, IllegalAccessException {
        Deadline.begin();
        String document = Files.exists(DOCUMENT) ? Files.readString(DOCUMENT, StandardCharsets.UTF_8) : "";
        Map<String, List<String>> quotes = new TreeMap<>();
        int failed = 0;
        List<Method> tests = tests();
        for (Method test : tests) {
            Sentence sentence = test.getAnnotation(Sentence.class);
            int wrong = Check.wrong();
            Check.beginTest();
            run(test);
            Check.due("the document's part '" + sentence.in() + "' says '" + sentence.says() + "', which",
                document.isEmpty() || part(document, sentence.in()).contains(sentence.says()), true);
            quotes.computeIfAbsent(sentence.in(), in -> new ArrayList<>()).add(sentence.says());
            if (Check.wrong() != wrong) {
                failed++;
                System.out.println("FAILED: " + test.getDeclaringClass().getName() + "." + test.getName() + ", of "
                    + sentence.in() + ": " + sentence.says());
            }
        }
        for (int promise = 1; promise <= PROMISES; promise++) {
            Check.due("a test of promise " + promise, quotes.containsKey("Promise " + promise), true);
        }
        for (Map.Entry<String, List<String>> entry : quotes.entrySet()) {
            String rest = untested(part(document, entry.getKey()), entry.getValue());
            Check.beginTest();
            Check.due("a test of what '" + entry.getKey() + "' says in '" + rest + "'", !WORD.matcher(rest).find(), true);
        }
        System.out.println(tests.size() + " sentences, " + Check.asked() + " asked, " + failed + " sentences not held");
        if (failed != 0 || Check.wrong() != 0) {
            System.exit(1);
        }
    }
}
