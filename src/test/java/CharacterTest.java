import java.util.ArrayList;
import java.util.List;

/** Promises 10 and 11: character and core, against ribbons that are found cell by cell. */
public final class CharacterTest {
    public static void main(String[] args) {
        knownCharacters();
        everyCharacter();
        orthogonality();
        everyCore();
        refused();
        Check.end("CharacterTest");
    }

    private static int character(int shape, int other) {
        Tableauhall hall = new Tableauhall();
        hall.shape(shape);
        hall.shape(other);
        return hall.character(0, 1);
    }

    private static void knownCharacters() {
        Check.same("character of none", character(0, 0), 1);
        Check.same("character of 3 at 21", character(3, 21), 1);
        Check.same("character of 111 at 21", character(111, 21), -1);
        Check.same("character of 21 at 3", character(21, 3), -1);
        Check.same("character of 21 at 21", character(21, 21), 0);
        Check.same("character of 321 at 3111", character(321, 3111), -2);
        Check.same("character of 22 at 22", character(22, 22), 2);
        Check.same("character of 11111111 at 8", character(11111111, 8), -1);
    }

    private static void everyCharacter() {
        for (int cells = 0; cells <= 10; cells++) {
            for (int[] shape : Samples.shapes(cells)) {
                for (int[] other : Samples.shapes(cells)) {
                    Check.same("character of " + Samples.digits(shape) + " at " + Samples.digits(other),
                        character(Samples.digits(shape), Samples.digits(other)), slowCharacter(shape, other, 0));
                }
            }
        }
        for (int[] shape : Samples.shapes(12)) {
            int digits = Samples.digits(shape);
            for (int other : new int[] {84, 66, 444, 3333, 22221111, 5421, 33222}) {
                Check.same("character of " + digits + " at " + other, character(digits, other),
                    slowCharacter(shape, parts(other), 0));
            }
        }
    }

    private static int[] parts(int digits) {
        int[] parts = new int[8];
        String text = digits == 0 ? "" : Integer.toString(digits);
        for (int index = 0; index < text.length(); index++) {
            parts[index] = text.charAt(index) - '0';
        }
        return parts;
    }

    private static int slowCharacter(int[] shape, int[] other, int index) {
        if (index == 8 || other[index] == 0) {
            return 1;
        }
        int sum = 0;
        for (int[] rest : withoutRibbon(shape, other[index])) {
            int rows = 0;
            for (int row = 0; row < 8; row++) {
                rows += rest[row] < shape[row] ? 1 : 0;
            }
            sum += (rows % 2 == 1 ? 1 : -1) * slowCharacter(rest, other, index + 1);
        }
        return sum;
    }

    /** All shapes that are left when a ribbon of so many cells is taken away. */
    private static List<int[]> withoutRibbon(int[] shape, int cells) {
        List<int[]> found = new ArrayList<>();
        for (int[] rest : Samples.shapes(Math.max(0, Samples.cells(shape) - cells))) {
            if (Samples.cells(shape) >= cells && Samples.within(rest, shape) && isRibbon(shape, rest)) {
                found.add(rest);
            }
        }
        return found;
    }

    /** The rows must follow one another, and two rows ahead of each other share exactly one column. */
    private static boolean isRibbon(int[] shape, int[] rest) {
        int top = 0;
        while (rest[top] == shape[top]) {
            top++;
        }
        int bottom = 7;
        while (rest[bottom] == shape[bottom]) {
            bottom--;
        }
        for (int row = top; row < bottom; row++) {
            int shared = 0;
            for (int column = 0; column < 8; column++) {
                boolean upper = column >= rest[row] && column < shape[row];
                boolean lower = column >= rest[row + 1] && column < shape[row + 1];
                shared += upper && lower ? 1 : 0;
            }
            if (shared != 1) {
                return false;
            }
        }
        return true;
    }

    /** At each other shape, the squares of all characters have the sum that the other shape's parts tell. */
    private static void orthogonality() {
        for (int cells = 0; cells <= 8; cells++) {
            for (int[] other : Samples.shapes(cells)) {
                int sum = 0;
                for (int[] shape : Samples.shapes(cells)) {
                    int value = character(Samples.digits(shape), Samples.digits(other));
                    sum += value * value;
                }
                int due = 1;
                int alike = 0;
                for (int index = 0; index < 8 && other[index] > 0; index++) {
                    alike = index > 0 && other[index] == other[index - 1] ? alike + 1 : 1;
                    due *= other[index] * alike;
                }
                Check.same("squares at " + Samples.digits(other), sum, due);
            }
        }
    }

    private static void everyCore() {
        for (int[] shape : Samples.shapesUpTo(12)) {
            Tableauhall hall = new Tableauhall();
            hall.shape(Samples.digits(shape));
            for (int cells = 1; cells <= 12; cells++) {
                int[] left = shape;
                for (List<int[]> next = withoutRibbon(left, cells); !next.isEmpty();) {
                    left = next.get(0);
                    next = withoutRibbon(left, cells);
                }
                Check.same("core of " + Samples.digits(shape) + " for " + cells, hall.core(0, cells),
                    Samples.cells(left));
            }
        }
    }

    private static void refused() {
        Tableauhall hall = new Tableauhall();
        hall.shape(21);
        hall.shape(22);
        int[] numbers = {-1, 2, 13, Integer.MIN_VALUE, Integer.MAX_VALUE};
        for (int number : numbers) {
            Check.refuses("character(" + number + ", 0)", Check.NO_INDEX, () -> hall.character(number, 0));
            Check.refuses("character(0, " + number + ")", Check.NO_INDEX, () -> hall.character(0, number));
            Check.refuses("core(" + number + ", 0)", Check.NO_INDEX, () -> hall.core(number, 0));
            if (number != 2) {
                Check.refuses("core(0, " + number + ")", Check.BAD_ARGUMENT, () -> hall.core(0, number));
            }
        }
        Check.refuses("core(0, 0)", Check.BAD_ARGUMENT, () -> hall.core(0, 0));
        Check.refuses("character(0, 1)", Check.BAD_ARGUMENT, () -> hall.character(0, 1));
        Check.refuses("character(1, 0)", Check.BAD_ARGUMENT, () -> hall.character(1, 0));
    }
}
