import java.io.IOException;
import java.lang.reflect.Constructor;
import java.lang.reflect.Field;
import java.lang.reflect.Method;
import java.lang.reflect.Modifier;
import java.nio.charset.StandardCharsets;
import java.nio.file.Files;
import java.nio.file.Path;
import java.util.Arrays;
import java.util.Set;
import java.util.TreeSet;
import java.util.regex.Matcher;
import java.util.regex.Pattern;
import java.util.stream.Collectors;

/** The face of the document, and those rules of LANGUAGE.md that can be seen from outside. */
public final class RulesTest {
    private static final String[] FORBIDDEN = {"\\bthrow\\b", "\\btry\\b", "\\bcatch\\b", "\\bsynchronized\\b", "\\bassert\\b",
        "->", "::", "Exact\\(", "\\bdouble\\b", "\\bfloat\\b", "\\bpackage\\b", "\\bprotected\\b", "\\bThread\\b", "\\bRandom\\b",
        "System\\.(?!arraycopy)", "\\bstatic \\{"};
    private static final Set<String> LIBRARY = Set.of("Math.max", "Math.min", "Math.abs", "Math.floorDiv", "Math.floorMod",
        "Integer.bitCount", "Integer.compare", "Long.compare", "Arrays.fill", "System.arraycopy");

    public static void main(String[] args) throws IOException {
        Path main = Path.of(System.getProperty("main", "src/main/java/MovingStair.java"));
        String text = Files.readString(main, StandardCharsets.US_ASCII);
        face(Path.of(System.getProperty("shared", "../shared")).resolve("DOC.md"));
        members();
        nested();
        String code = text.replaceAll("(?s)/\\*.*?\\*/|//[^\n]*", "");
        words(code);
        library(code);
        nothingHandedOut(code);
        lengths(text);
        Check.finish("RulesTest");
    }

    private static void face(Path document) throws IOException {
        String doc = Files.readString(document, StandardCharsets.UTF_8);
        Set<String> wanted = new TreeSet<>();
        Matcher methods = Pattern.compile("    public (int|long) (\\w+)\\(([^)]*)\\);").matcher(doc);
        while (methods.find()) {
            wanted.add(methods.group(1) + " " + methods.group(2) + "(" + methods.group(3).replaceAll(" \\w+(?=,|$)", "") + ")");
        }
        Set<String> found = new TreeSet<>();
        for (Method method : MovingStair.class.getDeclaredMethods()) {
            if (Modifier.isPublic(method.getModifiers())) {
                found.add(method.getReturnType() + " " + method.getName() + "("
                        + Arrays.stream(method.getParameterTypes()).map(Class::getName).collect(Collectors.joining(", ")) + ")");
            }
        }
        Check.due("the document's methods", wanted.size(), 61);
        Check.due("the face " + found + " is " + wanted, found.equals(wanted) ? 1 : 0, 1);
    }

    private static void members() {
        Set<String> open = new TreeSet<>();
        for (Method method : MovingStair.class.getDeclaredMethods()) {
            if (Modifier.isPublic(method.getModifiers())) {
                open.add(method.getName());
            }
        }
        for (Method method : MovingStair.class.getDeclaredMethods()) {
            boolean hidden = Modifier.isPrivate(method.getModifiers());
            Check.due(method + " is public or private", hidden || Modifier.isPublic(method.getModifiers()) ? 1 : 0, 1);
            Check.due(method + " bears a public name", hidden && open.contains(method.getName()) ? 1 : 0, 0);
        }
        for (Field field : MovingStair.class.getDeclaredFields()) {
            boolean constant = field.getName().equals("NONE");
            Check.due(field + " is private", Modifier.isPrivate(field.getModifiers()) != constant ? 1 : 0, 1);
        }
        Constructor<?>[] constructors = MovingStair.class.getDeclaredConstructors();
        Check.due("one constructor", constructors.length, 1);
        Check.due("the class is final", Modifier.isFinal(MovingStair.class.getModifiers()) ? 1 : 0, 1);
    }

    private static void nested() {
        Class<?>[] inside = MovingStair.class.getDeclaredClasses();
        Check.due("few classes", inside.length <= 11 ? 1 : 0, 1);
        for (Class<?> one : inside) {
            Check.due(one + " is static", Modifier.isStatic(one.getModifiers()) ? 1 : 0, 1);
            Check.due(one + " is not public", Modifier.isPublic(one.getModifiers()) ? 1 : 0, 0);
            limits(one);
        }
        limits(MovingStair.class);
    }

    private static void limits(Class<?> one) {
        int fields = 0;
        for (Field field : one.getDeclaredFields()) {
            boolean fixed = Modifier.isStatic(field.getModifiers());
            fields += fixed ? 0 : 1;
            Check.due(field + " is final", fixed && !Modifier.isFinal(field.getModifiers()) ? 1 : 0, 0);
        }
        Check.due(one + " has " + fields + " fields", fields <= 20 ? 1 : 0, 1);
        for (Method method : one.getDeclaredMethods()) {
            Check.due(method + " has many parameters", method.getParameterCount() <= 7 ? 1 : 0, 1);
        }
    }

    private static void words(String code) {
        for (String word : FORBIDDEN) {
            Check.due("the code has " + word, Pattern.compile(word).matcher(code).find() ? 1 : 0, 0);
        }
        Matcher imports = Pattern.compile("import ([\\w.*]+);").matcher(code);
        while (imports.find()) {
            Check.due("import " + imports.group(1), imports.group(1).equals("java.util.Arrays") ? 1 : 0, 1);
        }
    }

    /** Rule 4: what is called of the library stands in it, and only arrays of numbers are filled. */
    private static void library(String code) {
        Matcher calls = Pattern.compile("\\b((?:Math|Integer|Long|Arrays|System)\\.\\w+)").matcher(code);
        while (calls.find()) {
            Check.due(calls.group(1) + " is of the library's list", LIBRARY.contains(calls.group(1)) ? 1 : 0, 1);
        }
        Matcher filled = Pattern.compile("Arrays\\.fill\\((\\w+),").matcher(code);
        while (filled.find()) {
            boolean numbers = Pattern.compile("\\b(int|long|short|byte|char)\\[\\] " + filled.group(1) + "\\b").matcher(code).find();
            Check.due(filled.group(1) + " has numbers", numbers ? 1 : 0, 1);
        }
    }

    /** Rule 12: an object that is being made gives nothing of its own to those that it makes. */
    private static void nothingHandedOut(String code) {
        for (Class<?> one : MovingStair.class.getDeclaredClasses()) {
            Matcher made = Pattern.compile("new " + one.getSimpleName() + "\\(([^)]*)\\)").matcher(code);
            while (made.find()) {
                Check.due("new " + one.getSimpleName() + " is given " + made.group(1), made.group(1).length(), 0);
            }
        }
    }

    /** A method begins at a line that ends with "{" below a class, and ends at its own indent. */
    private static void lengths(String text) {
        String[] lines = text.split("\n");
        for (int i = 0; i < lines.length; i++) {
            Check.due("line " + (i + 1) + " is long", lines[i].length() <= 120 ? 1 : 0, 1);
            Matcher head = Pattern.compile("^( +)[\\w<>\\[\\] ]+\\(.*\\) \\{$").matcher(lines[i]);
            if (head.find() && !lines[i].trim().matches("(if|for|while|switch|\\} else).*")) {
                int end = i;
                while (!lines[end].equals(head.group(1) + "}")) {
                    end++;
                }
                Check.due(lines[i].trim() + " is long", end - i <= 60 ? 1 : 0, 1);
            }
        }
    }
}
