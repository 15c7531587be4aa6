import java.util.ArrayList;
import java.util.List;
import java.util.Random;

/** Shapes and words to try the program with, and the plain forms in which the tests reckon with them. */
final class Samples {
    static final int ROWS = 8;

    private Samples() {
    }

    /** All shapes of so many cells, each as eight parts. */
    static List<int[]> shapes(int cells) {
        List<int[]> found = new ArrayList<>();
        extend(new int[ROWS], 0, cells, 8, found);
        return found;
    }

    static List<int[]> shapesUpTo(int cells) {
        List<int[]> found = new ArrayList<>();
        for (int n = 0; n <= cells; n++) {
            found.addAll(shapes(n));
        }
        return found;
    }

    private static void extend(int[] parts, int row, int left, int most, List<int[]> found) {
        if (left == 0) {
            found.add(parts.clone());
        } else if (row < ROWS) {
            for (int part = Math.min(most, left); part >= 1; part--) {
                parts[row] = part;
                extend(parts, row + 1, left - part, part, found);
                parts[row] = 0;
            }
        }
    }

    /** The parts as the digits of a number. */
    static int digits(int[] parts) {
        int digits = 0;
        for (int part : parts) {
            digits = part == 0 ? digits : digits * 10 + part;
        }
        return digits;
    }

    static int cells(int[] parts) {
        int cells = 0;
        for (int part : parts) {
            cells += part;
        }
        return cells;
    }

    static boolean within(int[] inner, int[] outer) {
        for (int row = 0; row < ROWS; row++) {
            if (inner[row] > outer[row]) {
                return false;
            }
        }
        return true;
    }

    /** Words of all lengths, of few and of many letters; always the same ones. */
    static List<int[]> words(int many) {
        Random random = new Random(20261119);
        List<int[]> words = new ArrayList<>();
        for (int n = 0; n < many; n++) {
            int[] word = new int[n % 13];
            int letters = 1 + random.nextInt(9);
            int least = 1 + random.nextInt(10 - letters);
            for (int index = 0; index < word.length; index++) {
                word[index] = least + random.nextInt(letters);
            }
            words.add(word);
        }
        return words;
    }

    /** Puts a word into a workshop; returns its number. */
    static int put(Tableauhall hall, int... letters) {
        int word = hall.word();
        for (int letter : letters) {
            hall.append(word, letter);
        }
        return word;
    }

    static int[] letters(Tableauhall hall, int word, int length) {
        int[] letters = new int[length];
        for (int index = 0; index < length; index++) {
            letters[index] = hall.letterAt(word, index);
        }
        return letters;
    }
}
