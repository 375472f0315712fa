import java.io.IOException;
import java.lang.reflect.Constructor;
import java.lang.reflect.Field;
import java.lang.reflect.Method;
import java.lang.reflect.Modifier;
import java.nio.file.Files;
import java.nio.file.Path;
import java.util.HashSet;
import java.util.List;
import java.util.Set;
import java.util.TreeSet;
import java.util.regex.Matcher;
import java.util.regex.Pattern;

/** The public face, and those rules of LANGUAGE.md that can be seen in the text. */
public final class LanguageTest {
    private static final Path SOURCE = Path.of("src/main/java/CourierRelay.java");

    private static final List<String> FACE = List.of(
            "int addCourier(int, int)", "int setArea(int, int)", "int give(int, int, int, int)",
            "int setGrace(int)", "int drop(int)", "int run(int)", "int value(int)", "int courier(int, int)",
            "int parcel(int, int)", "int legs(int, int, boolean)", "int distance(int, int)", "int suited(int)",
            "int leastRelay(int)", "double punctuality()", "int paidIn(int)", "int bestZone(int, int)",
            "int worth(int, int)", "int doneIn()", "int append(int)", "int clearText()", "int parse()",
            "int undo()", "long digest()");

    /** What the rules leave out, and the rule that does so. */
    private static final String[][] LEFT_OUT = {
        {"\\b(import|package)\\b", "4"}, {"->|::", "2"}, {"\\b(synchronized|assert|finally)\\b", "6"},
        {"\\b(try|catch)\\b", "6 (this program needs none)"}, {"\\w+Exact\\b", "4"}, {"\\bstatic\\s*\\{", "5"},
        {"\\bThread|\\bSystem\\.(?!arraycopy)", "13"}, {"\\bequals\\s*\\(|\\bhashCode\\b|\\btoString\\b", "6"},
        {"\"", "3 (this program needs no text)"}, {"while\\s*\\(\\s*true|for\\s*\\(\\s*;\\s*;", "9"}};

    public static void main(String[] args) throws IOException {
        face();
        names();
        text();
        Check.end();
    }

    private static String told(Method method) {
        StringBuilder types = new StringBuilder();
        for (Class<?> type : method.getParameterTypes()) {
            types.append(types.length() == 0 ? "" : ", ").append(type.getSimpleName());
        }
        return method.getReturnType().getSimpleName() + " " + method.getName() + "(" + types + ")";
    }

    private static void face() {
        Check.is("the class's modifiers", CourierRelay.class.getModifiers(), Modifier.PUBLIC | Modifier.FINAL);
        Set<String> open = new TreeSet<>();
        for (Method method : CourierRelay.class.getDeclaredMethods()) {
            if (!Modifier.isPrivate(method.getModifiers())) {
                open.add(told(method));
                Check.is(told(method) + " is public alone", method.getModifiers(), Modifier.PUBLIC);
            }
        }
        Check.is("the methods", open, new TreeSet<>(FACE));
        for (Field field : CourierRelay.class.getDeclaredFields()) {
            boolean due = field.getName().equals("NONE");
            Check.is(field.getName() + " is public", Modifier.isPublic(field.getModifiers()), due);
            Check.is(field.getName() + " is private", Modifier.isPrivate(field.getModifiers()), !due);
        }
        Constructor<?>[] made = CourierRelay.class.getDeclaredConstructors();
        Check.is("constructors", made.length, 1);
        Check.is("the constructor's modifiers", made[0].getModifiers(), Modifier.PUBLIC);
    }

    private static void names() {
        Set<String> open = new HashSet<>();
        for (String line : FACE) {
            open.add(line.replaceAll("^\\w+ |\\(.*", ""));
        }
        for (Method method : CourierRelay.class.getDeclaredMethods()) {
            boolean hidden = Modifier.isPrivate(method.getModifiers());
            Check.is(told(method) + " hides a public name", hidden && open.contains(method.getName()), false);
        }
        for (Class<?> inside : CourierRelay.class.getDeclaredClasses()) {
            Check.is(inside + " is static", Modifier.isStatic(inside.getModifiers()), true);
            Check.is(inside + " is public", Modifier.isPublic(inside.getModifiers()), false);
            for (Method method : inside.getDeclaredMethods()) {
                Check.is(told(method) + " inside bears a public name", open.contains(method.getName()), false);
            }
        }
    }

    private static void text() throws IOException {
        String source = Files.readString(SOURCE);
        String code = source.replaceAll("(?s)/\\*.*?\\*/|//[^\\n]*", "");
        for (String[] rule : LEFT_OUT) {
            Matcher found = Pattern.compile(rule[0]).matcher(code);
            Check.is("LANGUAGE.md rule " + rule[1], found.find() ? found.group() : "nothing", "nothing");
        }
        Check.is("signs beyond 127", source.chars().filter(c -> c > 127).count(), 0L);
    }
}
