import java.io.IOException;
import java.lang.reflect.Constructor;
import java.lang.reflect.Field;
import java.lang.reflect.Method;
import java.lang.reflect.Modifier;
import java.nio.file.Files;
import java.nio.file.Path;
import java.util.Set;
import java.util.TreeSet;
import java.util.regex.Matcher;
import java.util.regex.Pattern;

// Looks in the class for what ../shared/LANGUAGE.md leaves out, as far as words and reflection can tell it.
public final class LanguageTest {
    private static final String FACE = "begin() bolt(int,int) count(int) declared(int) feed(long,int) find(int,long) induced(int,int) irpt(int,int)"
        + " item(int,int) logged(int) module() one(int,int) place() processors(int) ring(int) run(int) schedule(int,int,int) sema(int) send(int,int)"
        + " sent(int,int) task(int,int) trigger(int) value(int) waits(int,int,int)";

    public static void main(String[] args) throws IOException {
        words();
        face();
        for (Class<?> inside : PearlHouse.class.getDeclaredClasses()) {
            insideClass(inside);
        }
        Check.due("classes, some twelve", 1, PearlHouse.class.getDeclaredClasses().length <= 14 ? 1 : 0);
        Check.finish();
    }

    private static void words() throws IOException {
        String source = Files.readString(Path.of("src/main/java/PearlHouse.java"));
        source = source.replaceAll("(?s)/\\*.*?\\*/", " ").replaceAll("//[^\n]*", " ").replaceAll("\"[^\"]*\"", "\"\"");
        String[] barred = {"\\bthrow\\b", "\\btry\\b", "\\bcatch\\b", "\\bsynchronized\\b", "\\bassert\\b", "(?m)^(?!\\s*(case|default)\\b).*->", "::", "\\bObject\\b", "Exact\\b",
            "\\bSystem\\.(?!arraycopy)", "\\bpackage\\b", "\\bimport (?!java\\.util\\.(Arrays|ArrayList|List|Iterator);)", "\\bhashCode\\b",
            "\\bnew \\w+\\([^;{]*\\)\\s*\\{", "\\bprotected\\b", "\\bThread\\b", "\\bRandom\\b", "\"\"\\s*\\+|\\+\\s*\"\""};
        for (String word : barred) {
            Matcher found = Pattern.compile(word).matcher(source);
            Check.due("how often the source has " + word, 0, found.results().count());
        }
    }

    private static void face() {
        Set<String> found = new TreeSet<>();
        for (Method m : PearlHouse.class.getDeclaredMethods()) {
            if (!Modifier.isPrivate(m.getModifiers()) && !m.isSynthetic()) {
                Check.due(m + " is public, answers int", 1, Modifier.isPublic(m.getModifiers()) && m.getReturnType() == int.class ? 1 : 0);
                found.add(sign(m));
            }
        }
        String all = String.join(" ", found);
        Check.due("the face is " + all, 1, all.equals(FACE) ? 1 : 0);
        for (Field f : PearlHouse.class.getDeclaredFields()) {
            boolean constant = Set.of("NONE", "BAD", "STATE", "FULL").contains(f.getName());
            Check.due(f + " is public", constant ? 1 : 0, Modifier.isPublic(f.getModifiers()) ? 1 : 0);
            Check.due(f + " is private", constant ? 0 : 1, Modifier.isPrivate(f.getModifiers()) ? 1 : 0);
        }
        for (Constructor<?> c : PearlHouse.class.getDeclaredConstructors()) {
            Check.due("parameters of " + c, 0, c.getParameterCount());
        }
        Check.due("the class is final", 1, Modifier.isFinal(PearlHouse.class.getModifiers()) ? 1 : 0);
    }

    private static String sign(Method m) {
        StringBuilder text = new StringBuilder(m.getName()).append('(');
        for (Class<?> type : m.getParameterTypes()) {
            text.append(text.charAt(text.length() - 1) == '(' ? "" : ",").append(type.getName());
        }
        return text.append(')').toString();
    }

    private static void insideClass(Class<?> inside) {
        Check.due(inside + " is static", 1, Modifier.isStatic(inside.getModifiers()) ? 1 : 0);
        int fields = 0;
        for (Field f : inside.getDeclaredFields()) {
            if (Modifier.isStatic(f.getModifiers())) {
                Check.due(f + " is final", 1, Modifier.isFinal(f.getModifiers()) ? 1 : 0);
            } else {
                fields++;
            }
        }
        Check.due("fields of " + inside + ", some twenty", 1, fields <= 24 ? 1 : 0);
        for (Method m : inside.getDeclaredMethods()) {
            Check.due("parameters of " + m, 1, m.getParameterCount() <= 7 ? 1 : 0);
            boolean named = Modifier.isPrivate(m.getModifiers()) && (FACE.startsWith(m.getName() + "(") || FACE.contains(" " + m.getName() + "("));
            Check.due(m + " bears a name of the face", 0, named ? 1 : 0);
        }
    }
}
