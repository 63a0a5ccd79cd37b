import java.lang.reflect.Constructor;
import java.lang.reflect.Field;
import java.lang.reflect.Method;
import java.lang.reflect.Modifier;
import java.nio.file.Files;
import java.nio.file.Path;
import java.util.HashSet;
import java.util.Set;
import java.util.TreeSet;
import java.util.regex.Matcher;
import java.util.regex.Pattern;

/** The face of the class, and what of LANGUAGE.md can be seen in its text and in its compiled classes. */
public final class LanguageTest {
    private static final String[] FACE = {
        "int sheet(int,int,int)", "int cell(int,int,int)", "int tear(int)", "int copy(int,int,int,int,int)",
        "int plain(int,int,int,int)", "int still(int,boolean,int,int)", "int bent(int,boolean,int,int,int)",
        "int bought(boolean,int,int)", "int gap(int)", "int forbid(int,int,boolean)", "int meet(int,int,int,int)",
        "int empty(int)", "int undo()", "int redo()", "int about(int,int)", "int number(int,int)",
        "long least(int)", "long cold(int)", "int pinch(int,int)", "int level(int,int)", "int levels(int)",
        "long goesOn(int,int)", "long line(int,boolean,int)", "int verdict(int)", "long finding(int)",
        "int closest(int,int)", "long price()", "int fewest(int,boolean)", "long engine(int,int,int,int)",
        "long carrier(int,int,int)", "int count(int)"};

    public static void main(String[] args) throws Exception {
        face();
        for (Class<?> c : HeatWorks.class.getDeclaredClasses()) {
            inside(c);
        }
        Check.holds("at most twelve classes", HeatWorks.class.getDeclaredClasses().length + 1 <= 12);
        String text = Files.readString(Path.of("src/main/java/HeatWorks.java"));
        words(text.replaceAll("(?s)/\\*.*?\\*/", "").replaceAll("//[^\n]*", ""));
        Check.end();
    }

    private static String signature(Method m) {
        StringBuilder b = new StringBuilder(m.getReturnType().getSimpleName()).append(' ').append(m.getName());
        b.append('(');
        for (int i = 0; i < m.getParameterCount(); i++) {
            b.append(i == 0 ? "" : ",").append(m.getParameterTypes()[i].getSimpleName());
        }
        return b.append(')').toString();
    }

    private static void face() {
        Class<?> c = HeatWorks.class;
        Check.due("public and final", c.getModifiers() & (Modifier.PUBLIC | Modifier.FINAL),
                Modifier.PUBLIC | Modifier.FINAL);
        Set<String> open = new TreeSet<>();
        Set<String> names = new HashSet<>();
        for (Method m : c.getDeclaredMethods()) {
            if (Modifier.isPublic(m.getModifiers())) {
                open.add(signature(m));
                names.add(m.getName());
            }
        }
        Check.holds("the 31 methods", open.equals(new TreeSet<>(Set.of(FACE))));
        for (Method m : c.getDeclaredMethods()) {
            boolean isPrivate = Modifier.isPrivate(m.getModifiers());
            Check.holds(m.getName() + " public or private", isPrivate || Modifier.isPublic(m.getModifiers()));
            Check.holds(m.getName() + " has a name of its own", !isPrivate || !names.contains(m.getName()));
        }
        for (Field f : c.getDeclaredFields()) {
            boolean ok = f.getName().equals("NONE") ? Modifier.isPublic(f.getModifiers())
                    : Modifier.isPrivate(f.getModifiers());
            Check.holds(f.getName() + " is private, or NONE", ok);
        }
        Constructor<?>[] all = c.getDeclaredConstructors();
        Check.due("constructors", all.length, 1);
        Check.holds("public, without parameters",
                Modifier.isPublic(all[0].getModifiers()) && all[0].getParameterCount() == 0);
    }

    private static void inside(Class<?> c) {
        String name = c.getSimpleName();
        Check.holds(name + " is static", Modifier.isStatic(c.getModifiers()));
        int fields = 0;
        for (Field f : c.getDeclaredFields()) {
            boolean isStatic = Modifier.isStatic(f.getModifiers());
            fields += isStatic ? 0 : 1;
            Check.holds(name + "." + f.getName() + " is final if static",
                    !isStatic || Modifier.isFinal(f.getModifiers()));
        }
        Check.holds(name + " has at most twenty fields", fields <= 20);
        for (Method m : c.getDeclaredMethods()) {
            Check.holds(name + "." + m.getName() + " takes at most seven", m.getParameterCount() <= 7);
        }
        for (Constructor<?> m : c.getDeclaredConstructors()) {
            Check.holds(name + " takes at most seven", m.getParameterCount() <= 7);
        }
    }

    private static void words(String code) {
        String[] never = {"\\bthrow", "\\btry\\b", "\\bcatch\\b", "\\bsynchronized\\b", "\\bassert\\b", "->", "::",
            "Exact\\b", "\\bdouble\\b", "\\bfloat\\b", "\\bvar\\b", "\\bpackage\\b", "\\bprotected\\b",
            "\\bimport (?!java\\.util\\.Arrays;)", "\\bSystem\\.(?!arraycopy)", "\\bRandom\\b", "\\bThread\\b",
            "\\bstatic \\{", "hashCode", "toString"};
        for (String word : never) {
            Matcher m = Pattern.compile(word).matcher(code);
            Check.holds("no " + word, !m.find());
        }
        int depth = 0;
        int begin = 0;
        String[] lines = code.split("\n");
        for (int i = 0; i < lines.length; i++) {
            boolean opensMethod = lines[i].matches("\\s*[a-zA-Z].*\\) \\{") && !lines[i].matches("\\s*(if|for|while|switch|\\}).*");
            if (opensMethod) {
                begin = i;
                depth = lines[i].indexOf(lines[i].trim());
            } else if (lines[i].trim().equals("}") && lines[i].indexOf('}') == depth) {
                Check.holds("short method at line " + begin, i - begin <= 60);
            }
        }
    }
}
