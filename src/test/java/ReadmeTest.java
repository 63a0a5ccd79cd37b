import java.lang.reflect.Method;
import java.lang.reflect.Modifier;
import java.nio.file.Files;
import java.nio.file.Path;
import java.util.Set;
import java.util.TreeSet;
import java.util.regex.Matcher;
import java.util.regex.Pattern;

/** What README.md says about the use of the class: each call in its Java parts answers what stands behind it. */
public final class ReadmeTest {
    private static final Pattern PART = Pattern.compile("(?s)```java\n(.*?)```");
    private static final Pattern CALL =
            Pattern.compile("works\\.(\\w+)\\(([^)]*)\\); +// (-?\\d+)(: .*)?");

    private static final Set<String> NAMED = new TreeSet<>();

    private ReadmeTest() {
    }

    public static void main(String[] args) throws Exception {
        Matcher part = PART.matcher(Files.readString(Path.of("README.md")));
        int parts = 0;
        while (part.find()) {
            parts++;
            part(part.group(1));
        }
        Check.holds("README.md has Java parts", parts > 0);
        for (Method m : HeatWorks.class.getDeclaredMethods()) {
            if (Modifier.isPublic(m.getModifiers())) {
                Check.holds("README.md uses " + m.getName(), NAMED.contains(m.getName()));
            }
        }
        Check.end();
    }

    /** Each part is a run of calls on an object of its own. */
    private static void part(String text) throws Exception {
        HeatWorks works = new HeatWorks();
        for (String line : text.split("\n")) {
            Matcher call = CALL.matcher(line);
            if (call.matches()) {
                long got = answer(works, call.group(1), call.group(2));
                Check.due("README.md: " + line, got, Long.parseLong(call.group(3)));
            } else {
                Check.holds("README.md: a call with its answer: " + line,
                        line.isEmpty() || line.equals("HeatWorks works = new HeatWorks();"));
            }
        }
    }

    private static long answer(HeatWorks works, String name, String told) throws Exception {
        String[] words = told.isEmpty() ? new String[0] : told.split(", ");
        Object[] values = new Object[words.length];
        for (int i = 0; i < words.length; i++) {
            boolean isTruth = words[i].equals("true") || words[i].equals("false");
            values[i] = isTruth ? (Object) Boolean.valueOf(words[i]) : valueOf(words[i]);
        }
        NAMED.add(name);
        return ((Number) methodNamed(name).invoke(works, values)).longValue();
    }

    private static Integer valueOf(String word) {
        return word.equals("HeatWorks.NONE") ? HeatWorks.NONE : Integer.parseInt(word);
    }

    private static Method methodNamed(String name) {
        for (Method m : HeatWorks.class.getMethods()) {
            if (m.getName().equals(name)) {
                return m;
            }
        }
        throw new IllegalArgumentException("README.md names " + name + ", which is no method");
    }
}
