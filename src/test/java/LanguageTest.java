import java.io.IOException;
import java.lang.reflect.Constructor;
import java.lang.reflect.Field;
import java.lang.reflect.Method;
import java.lang.reflect.Modifier;
import java.nio.file.Files;
import java.nio.file.Path;
import java.util.ArrayList;
import java.util.HashSet;
import java.util.List;
import java.util.Set;
import java.util.TreeSet;
import java.util.regex.Matcher;
import java.util.regex.Pattern;

/** The public face, and those rules of LANGUAGE.md that can be seen in the text or in the compiled class. */
public final class LanguageTest {
    private static final Path SOURCE = Path.of("src/main/java/CourierRelay.java");

    private static final List<String> FACE = List.of(
            "int addCourier(int, int)", "int setArea(int, int)", "int give(int, int, int, int)",
            "int setGrace(int)", "int drop(int)", "int run(int)", "int value(int)", "int courier(int, int)",
            "int parcel(int, int)", "int legs(int, int, boolean)", "int distance(int, int)", "int suited(int)",
            "int leastRelay(int)", "double punctuality()", "int paidIn(int)", "int bestZone(int, int)",
            "int worth(int, int)", "int doneIn()", "int append(int)", "int clearText()", "int parse()",
            "int undo()", "long digest()");

    /** What the rules leave out, and the rule that does so. */
    private static final String[][] LEFT_OUT = {
        {"\\bpackage\\b", "the head"},
        {"\\bimport\\s+(?!java\\.util\\.(ArrayList|List|Arrays|Iterator|NoSuchElementException)\\s*;)", "4"},
        {"::", "2"}, {"^(?!\\s*(case|default)\\b).*->", "2"},
        {"\\b(synchronized|assert|finally)\\b|\\btry\\s*\\(", "6"},
        {"\\bcatch\\s*\\((?!\\s*(final\\s+)?(IllegalState|IllegalArgument|IndexOutOfBounds|Arithmetic"
                + "|UnsupportedOperation|NoSuchElement|Runtime)Exception\\b)", "6"},
        {"\\w+Exact\\b", "4"}, {"\\bstatic\\s*\\{", "5"}, {"\\bThread|\\bSystem\\.(?!arraycopy\\b)", "4 and 13"},
        {"\\bequals\\s*\\(\\s*Object|\\bint\\s+hashCode\\s*\\(|\\bString\\s+toString\\s*\\(", "6"},
        {"\\bextends\\s+\\w*(Exception|Error|Throwable)\\b", "6"},
        {"while\\s*\\(\\s*true|for\\s*\\([^;]*;\\s*;", "9"}};

    public static void main(String[] args) throws IOException {
        Check.test("LANGUAGE.md, rule 1: the face", LanguageTest::face);
        Check.test("LANGUAGE.md, rule 1: the names", LanguageTest::names);
        Check.test("LANGUAGE.md, rule 5: static fields are final", LanguageTest::staticFields);
        Check.test("LANGUAGE.md, rule 11: sizes", LanguageTest::sizes);
        String source = Files.readString(SOURCE);
        Check.test("LANGUAGE.md, what the rules leave out", () -> text(source));
        Check.end();
    }

    private static List<Class<?>> classes() {
        List<Class<?>> all = new ArrayList<>();
        all.add(CourierRelay.class);
        for (int k = 0; k < all.size(); k++) {
            all.addAll(List.of(all.get(k).getDeclaredClasses()));
        }
        return all;
    }

    private static String told(Method method) {
        StringBuilder types = new StringBuilder();
        for (Class<?> type : method.getParameterTypes()) {
            types.append(types.length() == 0 ? "" : ", ").append(type.getSimpleName());
        }
        return method.getReturnType().getSimpleName() + " " + method.getName() + "(" + types + ")";
    }

    private static void face() {
        Check.is("the class's modifiers", CourierRelay.class.getModifiers(), Modifier.PUBLIC | Modifier.FINAL);
        Set<String> open = new TreeSet<>();
        for (Method method : CourierRelay.class.getDeclaredMethods()) {
            if (!Modifier.isPrivate(method.getModifiers()) && !method.isSynthetic()) {
                open.add(told(method));
                Check.is(told(method) + " is public alone", method.getModifiers(), Modifier.PUBLIC);
            }
        }
        Check.is("the methods", open, new TreeSet<>(FACE));
        for (Field field : CourierRelay.class.getDeclaredFields()) {
            boolean due = field.getName().equals("NONE");
            Check.is(field.getName() + " is public", Modifier.isPublic(field.getModifiers()), due);
            Check.is(field.getName() + " is private", Modifier.isPrivate(field.getModifiers()), !due);
        }
        Constructor<?>[] made = CourierRelay.class.getDeclaredConstructors();
        Check.is("constructors", made.length, 1);
        Check.is("the constructor's modifiers", made[0].getModifiers(), Modifier.PUBLIC);
    }

    private static void names() {
        Set<String> open = new HashSet<>();
        for (String line : FACE) {
            open.add(line.replaceAll("^\\w+ |\\(.*", ""));
        }
        for (Class<?> one : classes()) {
            for (Method method : one.getDeclaredMethods()) {
                boolean hidden = Modifier.isPrivate(method.getModifiers());
                Check.is(told(method) + " hides a public name", hidden && open.contains(method.getName()), false);
            }
            boolean outer = one == CourierRelay.class;
            Check.is(one + " is public", Modifier.isPublic(one.getModifiers()), outer);
            Check.is(one + " is protected", Modifier.isProtected(one.getModifiers()), false);
        }
    }

    private static void staticFields() {
        for (Class<?> one : classes()) {
            for (Field field : one.getDeclaredFields()) {
                int marks = field.getModifiers();
                boolean changes = Modifier.isStatic(marks) && !Modifier.isFinal(marks);
                Check.is(field + " is static and not final", changes, false);
            }
        }
    }

    private static void sizes() {
        Check.is("some twelve classes at most", classes().size() <= 13, true);
        for (Class<?> one : classes()) {
            int fields = 0;
            for (Field field : one.getDeclaredFields()) {
                fields += Modifier.isStatic(field.getModifiers()) ? 0 : 1;
            }
            Check.is(one + " has some twenty fields at most", fields <= 22, true);
            for (Method method : one.getDeclaredMethods()) {
                Check.is(told(method) + " has seven parameters at most", method.getParameterCount() <= 7, true);
            }
        }
    }

    private static void text(String source) {
        String code = source.replaceAll("(?s)/\\*.*?\\*/|//[^\\n]*|\"(\\\\.|[^\"\\\\\\n])*\"", "");
        for (String[] rule : LEFT_OUT) {
            Matcher found = Pattern.compile(rule[0], Pattern.MULTILINE).matcher(code);
            Check.is("rule " + rule[1], found.find() ? found.group() : "nothing", "nothing");
        }
        Check.is("signs beyond 127", source.chars().filter(c -> c > 127).count(), 0L);
    }
}
