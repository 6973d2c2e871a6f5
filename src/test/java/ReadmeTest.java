import java.io.IOException;
import java.lang.reflect.Method;
import java.lang.reflect.Modifier;
import java.nio.charset.StandardCharsets;
import java.nio.file.Files;
import java.nio.file.Path;
import java.util.ArrayList;
import java.util.HashMap;
import java.util.List;
import java.util.Map;
import java.util.regex.Matcher;
import java.util.regex.Pattern;

/** What README.md tells of the class's answers is what the class answers, and it tells of every call. */
public final class ReadmeTest extends Check {
    private static final Pattern BLOCK = Pattern.compile("```java\n(.*?)```", Pattern.DOTALL);
    private static final Pattern ROW = Pattern.compile("(?:int (\\w+) = )?x\\.(\\w+)\\((.*?)\\); +// (-?\\d+)(?::.*)?");
    private static final Pattern TOLD_CALL = Pattern.compile("\\| `([^`]+)` \\|.*\\| ?([A-Z, ]*)\\|");
    private static final Pattern FACE_CALL = Pattern.compile(" {4}public (?:int|long) (\\w+\\(.*\\));");
    private static final Pattern PROMISE = Pattern.compile("`(?:int|long) (\\w+\\([^`]*\\))`: (.*)");
    private static final Pattern FINDING =
        Pattern.compile("(?<=\\. )(?:BEYOND|FULL|KIND|NONE|STATE|MISSING|SIZE)(?=[.:]| \\()");

    private static String page(String path) throws IOException {
        return Files.readString(Path.of(path), StandardCharsets.UTF_8);
    }

    private static Method call(String name) {
        for (Method m : NextButOne.class.getDeclaredMethods()) {
            if (m.getName().equals(name) && Modifier.isPublic(m.getModifiers())) {
                return m;
            }
        }
        throw new IllegalStateException("README.md has a call that isn't there: " + name);
    }

    private static long valueOf(String word, Map<String, Long> names) {
        return names.containsKey(word) ? names.get(word) : Long.decode(word);
    }

    private static long answer(NextButOne x, Method m, String told, Map<String, Long> names) throws Exception {
        String[] words = told.isEmpty() ? new String[0] : told.split(", ");
        Object[] arguments = new Object[words.length];
        for (int i = 0; i < words.length; i++) {
            long v = valueOf(words[i], names);
            if (m.getParameterTypes()[i] == long.class) {
                arguments[i] = v;
            } else {
                arguments[i] = (int) v;
            }
        }
        return ((Number) m.invoke(x, arguments)).longValue();
    }

    private static void examples(String readme) throws Exception {
        NextButOne x = null;
        Map<String, Long> names = new HashMap<>();
        int rows = 0;
        Matcher blocks = BLOCK.matcher(readme);
        while (blocks.find()) {
            for (String line : blocks.group(1).split("\n")) {
                Matcher row = ROW.matcher(line);
                if (line.equals("NextButOne x = new NextButOne();")) {
                    x = new NextButOne();
                } else if (row.matches()) {
                    long got = answer(x, call(row.group(2)), row.group(3), names);
                    due("README: " + line, got, Long.parseLong(row.group(4)));
                    names.put(row.group(1), got);
                    rows++;
                } else {
                    due("README: not a line with an answer: " + line, 1, 0);
                }
            }
        }
        due("README: there are examples", rows > 40 ? 1 : 0, 1);
    }

    private static String withoutTypes(String form) {
        return form.replaceAll("(int|long) ", "");
    }

    private static List<String> face(String document) {
        List<String> calls = new ArrayList<>();
        Matcher m = FACE_CALL.matcher(document);
        while (m.find()) {
            calls.add(withoutTypes(m.group(1)));
        }
        return calls;
    }

    /** By the call: its findings in the order of the promise's sentences. */
    private static Map<String, String> findings(String document) {
        Map<String, String> all = new HashMap<>();
        Matcher promises = PROMISE.matcher(document);
        while (promises.find()) {
            List<String> found = new ArrayList<>();
            Matcher m = FINDING.matcher(promises.group(2));
            while (m.find()) {
                found.add(m.group());
            }
            all.put(withoutTypes(promises.group(1)), String.join(", ", found));
        }
        return all;
    }

    private static void table(String readme, String document) {
        List<String> calls = new ArrayList<>();
        Map<String, String> asked = findings(document);
        Matcher rows = TOLD_CALL.matcher(readme);
        while (rows.find()) {
            String form = rows.group(1);
            calls.add(form);
            boolean same = rows.group(2).trim().equals(asked.get(form));
            due("README: findings of " + form + " by the document: " + asked.get(form), same ? 1 : 0, 1);
        }
        due("README: the table has the face, call by call: " + calls, calls.equals(face(document)) ? 1 : 0, 1);
        due("README: 40 calls", calls.size(), 40);
    }

    private static void tests(String readme) throws IOException {
        try (var files = Files.list(Path.of("src/test/java"))) {
            for (Path file : files.toList()) {
                String name = file.getFileName().toString().replace(".java", "");
                due("README: tells of " + name, readme.contains("`" + name + "`") ? 1 : 0, 1);
            }
        }
    }

    public static void main(String[] args) throws Exception {
        String readme = page("README.md");
        examples(readme);
        table(readme, page("../shared/DOC.md"));
        tests(readme);
        end();
    }
}
