import java.util.ArrayList;
import java.util.List;
import java.util.Random;

/** Shapes and words to try the program with, and the plain forms in which the tests reckon with them. */
final class Samples {
    static final int ROWS = 8;

    private Samples() {
    }

    /** All shapes of so many cells, each as eight parts. */
    static List<int[]> shapes(int cells) {
        List<int[]> found = new ArrayList<>();
        extend(new int[ROWS], 0, cells, 8, found);
        return found;
    }

    static List<int[]> shapesUpTo(int cells) {
        List<int[]> found = new ArrayList<>();
        for (int n = 0; n <= cells; n++) {
            found.addAll(shapes(n));
        }
        return found;
    }

    private static void extend(int[] parts, int row, int left, int most, List<int[]> found) {
        if (left == 0) {
            found.add(parts.clone());
        } else if (row < ROWS) {
            for (int part = Math.min(most, left); part >= 1; part--) {
                parts[row] = part;
                extend(parts, row + 1, left - part, part, found);
                parts[row] = 0;
            }
        }
    }

    /** The parts as the digits of a number. */
    static int digits(int[] parts) {
        int digits = 0;
        for (int part : parts) {
            digits = part == 0 ? digits : digits * 10 + part;
        }
        return digits;
    }

    static int cells(int[] parts) {
        int cells = 0;
        for (int part : parts) {
            cells += part;
        }
        return cells;
    }

    static boolean within(int[] inner, int[] outer) {
        for (int row = 0; row < ROWS; row++) {
            if (inner[row] > outer[row]) {
                return false;
            }
        }
        return true;
    }

    /** Words of all lengths, of few and of many letters; always the same ones. */
    static List<int[]> words(int many) {
        Random random = new Random(20261119);
        List<int[]> words = new ArrayList<>();
        for (int n = 0; n < many; n++) {
            int[] word = new int[n % 13];
            int letters = 1 + random.nextInt(9);
            int least = 1 + random.nextInt(10 - letters);
            for (int index = 0; index < word.length; index++) {
                word[index] = least + random.nextInt(letters);
            }
            words.add(word);
        }
        return words;
    }

    /** The digits as the document wants them written: none for 0. */
    static String written(int parts) {
        return parts == 0 ? "" : Integer.toString(parts);
    }

    /** Whether a number tells a shape, by its digits from the first to the last. */
    static boolean tellsShape(int parts) {
        if (parts < 0) {
            return false;
        }
        String text = written(parts);
        int ahead = 8;
        int cells = 0;
        for (int index = 0; index < text.length(); index++) {
            int part = text.charAt(index) - '0';
            if (part == 0 || part > ahead) {
                return false;
            }
            ahead = part;
            cells += part;
        }
        return text.length() <= 8 && cells <= 12;
    }

    /** A workshop with these shapes and without words. */
    static Tableauhall hallOf(int... shapes) {
        Tableauhall hall = new Tableauhall();
        for (int parts : shapes) {
            hall.shape(parts);
        }
        return hall;
    }

    /** A workshop with 12 shapes and 8 words of 12 letters, made by 116 calls. */
    static Tableauhall fullHall() {
        Tableauhall hall = hallOf(0, 1, 21, 321, 84, 66, 444, 3333, 22221111, 22, 4, 53211);
        for (int number = 0; number < 8; number++) {
            int[] letters = new int[12];
            for (int index = 0; index < letters.length; index++) {
                letters[index] = 1 + (index * (number + 2) + number * 3) % 9;
            }
            put(hall, letters);
        }
        return hall;
    }

    /** Puts a word into a workshop; returns its number. */
    static int put(Tableauhall hall, int... letters) {
        int word = hall.word();
        for (int letter : letters) {
            hall.append(word, letter);
        }
        return word;
    }

    static int[] letters(Tableauhall hall, int word, int length) {
        int[] letters = new int[length];
        for (int index = 0; index < length; index++) {
            letters[index] = hall.letterAt(word, index);
        }
        return letters;
    }
}
