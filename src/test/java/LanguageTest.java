import java.io.IOException;
import java.lang.reflect.Constructor;
import java.lang.reflect.Field;
import java.lang.reflect.Method;
import java.lang.reflect.Modifier;
import java.nio.file.Files;
import java.nio.file.Path;
import java.util.ArrayList;
import java.util.Arrays;
import java.util.List;
import java.util.Set;
import java.util.TreeSet;
import java.util.regex.Matcher;
import java.util.regex.Pattern;

/** The public face, and those rules of LANGUAGE.md that can be seen in the text or the members of the class. */
public final class LanguageTest {
    private static final String BOUNDS = " IndexOutOfBoundsException";
    private static final String ARGUMENT = " IllegalArgumentException";
    private static final String STATE = " IllegalStateException";
    private static final String[] FACE = {
        "int beat(int, int, int)" + BOUNDS + ARGUMENT,
        "int wake(int, boolean)" + BOUNDS,
        "int lose(int, int)" + BOUNDS + ARGUMENT + STATE,
        "int seam(int, int, int, int)" + BOUNDS + ARGUMENT + STATE,
        "int route(int, int)" + BOUNDS + ARGUMENT,
        "int put(int, int)" + BOUNDS + ARGUMENT + STATE,
        "int run(int)" + ARGUMENT + STATE,
        "int append(int)" + ARGUMENT + STATE,
        "int clearBuffer()",
        "int firstError()",
        "int putAll()" + ARGUMENT + STATE,
        "int undo()" + STATE,
        "int room(int, int)" + BOUNDS + ARGUMENT,
        "int queue(int, int, int)" + BOUNDS + ARGUMENT,
        "int seamOf(int, int)" + BOUNDS + ARGUMENT,
        "int onSeam(int, int, int)" + BOUNDS + ARGUMENT,
        "int count(int)" + ARGUMENT,
        "int ifRun(int, int)" + ARGUMENT,
        "int outIn(int)" + BOUNDS,
        "int bestPhase(int)" + BOUNDS,
        "int slowest()",
        "double outShare()",
        "long digest()",
    };
    /** What the program has no use for, though LANGUAGE.md leaves some of it. */
    private static final String[] NOT_IN_TEXT = {"\\bimport\\b", "\\bpackage\\b", "\\btry\\b", "\\bcatch\\b",
        "\\bfinally\\b", "\\bsynchronized\\b", "\\bassert\\b", "\\binstanceof\\b", "->", "::", "\\bSystem\\.",
        "\\bMath\\.", "\\bDouble\\b", "\\bInteger\\b", "\\bLong\\b", "\\bThread\\b", "\\bObject\\b", "\\bString\\b",
        "\\bhashCode\\b", "\\bequals\\b", "\\btoString\\b", "\\bnative\\b", "\\bvolatile\\b"};
    private static final int LONGEST_METHOD = 60;
    private static final int MOST_FIELDS = 20;
    private static final int MOST_CLASSES = 12;

    public static void main(String[] args) throws IOException {
        face();
        Set<String> publicNames = new TreeSet<>();
        for (String line : FACE) {
            publicNames.add(line.substring(line.indexOf(' ') + 1, line.indexOf('(')));
        }
        List<Class<?>> classes = new ArrayList<>(List.of(SeamBeats.class.getDeclaredClasses()));
        Check.dueTrue("too many classes", classes.size() < MOST_CLASSES);
        for (Class<?> inside : classes) {
            Check.dueTrue(inside + " is seen outside", !Modifier.isPublic(inside.getModifiers())
                && !Modifier.isProtected(inside.getModifiers()) && Modifier.isStatic(inside.getModifiers()));
        }
        classes.add(SeamBeats.class);
        for (Class<?> one : classes) {
            members(one, publicNames);
        }
        String text = Files.readString(Path.of("src/main/java/SeamBeats.java"));
        text(text);
        methodLengths(text);
        Check.end();
    }

    private static void face() {
        Set<String> got = new TreeSet<>();
        for (Method method : SeamBeats.class.getDeclaredMethods()) {
            if (!Modifier.isPrivate(method.getModifiers())) {
                got.add(line(method));
                Check.dueTrue(method + " is not public, or is static",
                    Modifier.isPublic(method.getModifiers()) && !Modifier.isStatic(method.getModifiers()));
            }
        }
        Set<String> want = new TreeSet<>(Arrays.asList(FACE));
        Check.dueTrue("the methods are " + got + ", due are " + want, got.equals(want));
        Check.dueTrue("the class is not public and final", Modifier.isPublic(SeamBeats.class.getModifiers())
            && Modifier.isFinal(SeamBeats.class.getModifiers()));
        Constructor<?>[] constructors = SeamBeats.class.getDeclaredConstructors();
        Check.due("constructors", constructors.length, 1);
        Check.due("parameters of the constructor", constructors[0].getParameterCount(), 0);
        Check.dueTrue("the constructor is not public", Modifier.isPublic(constructors[0].getModifiers()));
        for (Field field : SeamBeats.class.getDeclaredFields()) {
            boolean isPublic = Modifier.isPublic(field.getModifiers());
            Check.dueTrue(field + " is seen outside", isPublic == field.getName().equals("NONE")
                && (isPublic || Modifier.isPrivate(field.getModifiers())));
        }
    }

    private static String line(Method method) {
        List<String> parameters = new ArrayList<>();
        for (Class<?> parameter : method.getParameterTypes()) {
            parameters.add(parameter.getSimpleName());
        }
        StringBuilder line = new StringBuilder(method.getReturnType().getSimpleName() + " " + method.getName() + "("
            + String.join(", ", parameters) + ")");
        for (Class<?> thrown : method.getExceptionTypes()) {
            line.append(' ').append(thrown.getSimpleName());
        }
        return line.toString();
    }

    private static void members(Class<?> one, Set<String> publicNames) {
        int fields = 0;
        for (Field field : one.getDeclaredFields()) {
            boolean isStatic = Modifier.isStatic(field.getModifiers());
            fields += isStatic ? 0 : 1;
            Check.dueTrue(field + " is static state",
                !isStatic || Modifier.isFinal(field.getModifiers()) && field.getType().isPrimitive());
        }
        Check.dueTrue(one + " has too many fields", fields <= MOST_FIELDS);
        for (Method method : one.getDeclaredMethods()) {
            boolean isFace = one == SeamBeats.class && Modifier.isPublic(method.getModifiers());
            Check.dueTrue(method + " bears a public name", isFace || !publicNames.contains(method.getName()));
            Check.dueTrue(method + " has too many parameters", method.getParameterCount() <= 7);
        }
    }

    private static void text(String text) {
        String code = text.replaceAll("(?s)/\\*.*?\\*/", "").replaceAll("//[^\n]*", "").replaceAll("\"[^\"\n]*\"", "");
        for (String pattern : NOT_IN_TEXT) {
            Matcher found = Pattern.compile(pattern).matcher(code);
            Check.dueTrue("the program has " + pattern, !found.find());
        }
        for (int i = 0; i < text.length(); i++) {
            Check.dueTrue("a sign that is not plain: " + (int) text.charAt(i), text.charAt(i) < 127);
        }
        Matcher thrown = Pattern.compile("throw\\s+(?!new (IndexOutOfBounds|IllegalArgument|IllegalState)Exception\\()")
            .matcher(code);
        Check.dueTrue("another exception is thrown", !thrown.find());
    }

    /** A method begins and ends at 4 spaces, within a class inside at 8. */
    private static void methodLengths(String text) {
        String indent = "    ";
        int start = 0;
        int methods = 0;
        String[] lines = text.split("\n");
        for (int i = 0; i < lines.length; i++) {
            if (lines[i].startsWith("    private static final class ")) {
                indent = "        ";
            } else if (lines[i].matches(indent + "\\w.*\\(.*") && !lines[i].endsWith(";")) {
                start = i;
                methods++;
            } else if (lines[i].equals(indent + "}")) {
                Check.dueTrue("a long method ends in the line " + (i + 1), i - start < LONGEST_METHOD);
            } else if (lines[i].equals("    }")) {
                indent = "    ";
            }
        }
        Check.dueTrue("only " + methods + " methods were seen", methods > 70);
    }
}
