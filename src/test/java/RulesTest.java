import java.io.IOException;
import java.lang.reflect.Constructor;
import java.lang.reflect.Field;
import java.lang.reflect.Method;
import java.lang.reflect.Modifier;
import java.nio.file.Files;
import java.nio.file.Path;
import java.util.ArrayList;
import java.util.Arrays;
import java.util.List;
import java.util.Set;
import java.util.TreeSet;

/** Those of the rules of LANGUAGE.md that can be seen from the text and the face; runs in the project's folder. */
public final class RulesTest {
    private static final List<String> FACE = List.of("append", "areAlike", "character", "checksum", "coefficient",
        "column", "core", "count", "down", "fillings", "highestShare", "hook", "inserted", "isHighest", "isSound",
        "letterAt", "meanSize", "orbit", "part", "recorded", "rowOf", "shape", "size", "tableaux", "tableauxAnew",
        "up", "word");
    private static final List<String> RULED_OUT = List.of("::", "finally", "synchronized", "assert ", "Exact(",
        "static {", "hashCode", "System.out", "Throwable", "(Exception ", "NullPointerException",
        "ArrayIndexOutOfBoundsException", "ClassCastException", "NegativeArraySizeException", "ArrayStoreException");
    private static final List<String> IMPORTS = List.of("ArrayList", "Arrays", "Iterator", "List",
        "NoSuchElementException");
    private static final int LONGEST_METHOD = 60;

    public static void main(String[] args) throws IOException {
        face();
        membersOfItsOwn();
        List<String> lines = Files.readAllLines(Path.of("src/main/java/Tableauhall.java"));
        words(lines);
        methods(lines);
        Check.end("RulesTest");
    }

    /** Rule 1: one public constructor and the public methods of the document. */
    private static void face() {
        Set<String> open = new TreeSet<>();
        for (Method method : Tableauhall.class.getDeclaredMethods()) {
            if (Modifier.isPublic(method.getModifiers())) {
                open.add(method.getName());
            }
        }
        Check.same("the face", List.copyOf(open), FACE);
        Constructor<?>[] constructors = Tableauhall.class.getDeclaredConstructors();
        Check.same("one constructor", constructors.length, 1);
        Check.same("it is public", Modifier.isPublic(constructors[0].getModifiers()), true);
        Check.same("the class is public and final", Tableauhall.class.getModifiers(),
            Modifier.PUBLIC | Modifier.FINAL);
    }

    /** Rules 1, 5 and 11: all else is private, with names and parameters within bounds, and no state is static. */
    private static void membersOfItsOwn() {
        for (Method method : Tableauhall.class.getDeclaredMethods()) {
            boolean isPrivate = Modifier.isPrivate(method.getModifiers());
            boolean bears = FACE.contains(method.getName());
            Check.same(method + " is of the face or private", bears != isPrivate || method.isSynthetic(), true);
            Check.same(method + " takes too many", method.getParameterCount() > 7, false);
        }
        for (Field field : Tableauhall.class.getDeclaredFields()) {
            Check.same(field + " is private", Modifier.isPrivate(field.getModifiers()), true);
        }
        Class<?>[] inside = Tableauhall.class.getDeclaredClasses();
        Check.same("some twelve classes", inside.length <= 12, true);
        for (Class<?> one : inside) {
            int open = one.getModifiers() & (Modifier.PUBLIC | Modifier.PROTECTED);
            Check.same(one + " is not open", open, 0);
        }
        List<Class<?>> all = new ArrayList<>(Arrays.asList(inside));
        all.add(Tableauhall.class);
        for (Class<?> one : all) {
            for (Field field : one.getDeclaredFields()) {
                boolean changes = Modifier.isStatic(field.getModifiers()) && !Modifier.isFinal(field.getModifiers());
                Check.same(field + " is static and changes", changes, false);
            }
        }
    }

    /** Rules 2, 4 and 6: words of what may not be used, and no library but what is listed. */
    private static void words(List<String> lines) {
        for (int index = 0; index < lines.size(); index++) {
            String line = lines.get(index);
            String where = "line " + (index + 1);
            for (String word : RULED_OUT) {
                Check.same(where + " holds " + word, line.contains(word), false);
            }
            if (line.startsWith("import ")) {
                String name = line.replace("import java.util.", "").replace(";", "").trim();
                Check.same(where + " takes " + name, IMPORTS.contains(name), true);
            }
            Check.same(where + " is of a package", line.startsWith("package "), false);
        }
    }

    /** Rule 11: a method ends at the brace that stands as far to the right as its first line. */
    private static void methods(List<String> lines) {
        for (int index = 0; index < lines.size(); index++) {
            String line = lines.get(index);
            String plain = line.trim();
            if (line.matches("    (    )?[a-z].*[({].*\\{") && !plain.matches("(if|for|while|switch|do|try)\\b.*")
                    && !plain.contains(" class ")) {
                String end = line.substring(0, line.length() - plain.length()) + "}";
                int last = index;
                while (last < lines.size() && !lines.get(last).equals(end)) {
                    last++;
                }
                Check.same("line " + (index + 1) + " begins a long method", last - index >= LONGEST_METHOD, false);
            }
        }
    }
}
