import java.io.IOException;
import java.lang.reflect.Field;
import java.lang.reflect.Method;
import java.lang.reflect.Modifier;
import java.nio.file.Files;
import java.nio.file.Path;
import java.util.Arrays;
import java.util.List;
import java.util.Set;
import java.util.TreeSet;

/** Those of the rules of LANGUAGE.md that can be seen from the text and the face; runs in the project's folder. */
public final class RulesTest {
    private static final String FACE = "append areAlike character checksum coefficient column core count down fillings"
        + " highestShare hook inserted isHighest isSound letterAt meanSize orbit part recorded rowOf shape size"
        + " tableaux tableauxAnew up word";
    private static final List<String> RULED_OUT = List.of("->", "::", "finally", "synchronized", "assert", "catch",
        "Exact(", "static {", "switch", "instanceof", "equals(", "hashCode", "toString", "System.out", "Object");

    public static void main(String[] args) throws IOException {
        face();
        text(Files.readAllLines(Path.of("src/main/java/Tableauhall.java")));
        Check.end("RulesTest");
    }

    private static void face() {
        Set<String> open = new TreeSet<>();
        for (Method method : Tableauhall.class.getDeclaredMethods()) {
            boolean bears = Arrays.asList(FACE.split(" ")).contains(method.getName());
            if (!Modifier.isPrivate(method.getModifiers())) {
                open.add(method.getName());
                Check.same(method + " is public", Modifier.isPublic(method.getModifiers()), true);
            } else {
                Check.same(method + " bears the name of a public one", bears, false);
            }
            Check.same(method + " takes too many", method.getParameterCount() > 7, false);
        }
        Check.same("the face", String.join(" ", open), FACE);
        for (Field field : Tableauhall.class.getDeclaredFields()) {
            Check.same(field + " is private", Modifier.isPrivate(field.getModifiers()), true);
        }
        for (Class<?> inside : Tableauhall.class.getDeclaredClasses()) {
            Check.same(inside + " is private and static",
                Modifier.isPrivate(inside.getModifiers()) && Modifier.isStatic(inside.getModifiers()), true);
            for (Method method : inside.getDeclaredMethods()) {
                Check.same(method + " bears the name of a public one",
                    Arrays.asList(FACE.split(" ")).contains(method.getName()), false);
            }
        }
    }

    private static void text(List<String> lines) {
        int begun = 0;
        for (int index = 0; index < lines.size(); index++) {
            String line = lines.get(index);
            String where = "line " + (index + 1);
            Check.same(where + " is plain", line.chars().allMatch(sign -> sign >= 32 && sign < 127), true);
            Check.same(where + " is short", line.length() <= 120, true);
            for (String word : RULED_OUT) {
                Check.same(where + " holds " + word, line.contains(word), false);
            }
            // Members are set apart by blank lines, so a method begins behind the last one.
            begun = line.isBlank() ? index : begun;
            boolean ends = line.equals("    }") || line.equals("        }");
            Check.same(where + " ends a long method", ends && index - begun > 60, false);
        }
    }
}
