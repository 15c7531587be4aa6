import java.util.HashMap;
import java.util.List;
import java.util.Map;

/** Promise 12: coefficient, against products reckoned by determinants and by adding rows of cells. */
public final class ProductTest {
    public static void main(String[] args) {
        knownCoefficients();
        everyCoefficient();
        refused();
        Check.end("ProductTest");
    }

    private static int coefficient(int shape, int first, int second) {
        Tableauhall hall = new Tableauhall();
        hall.shape(shape);
        hall.shape(first);
        hall.shape(second);
        return hall.coefficient(0, 1, 2);
    }

    private static void knownCoefficients() {
        Check.same("321 in 21 by 21", coefficient(321, 21, 21), 2);
        Check.same("4321 in 321 by 211", coefficient(4321, 321, 211), 3);
        Check.same("none in none by none", coefficient(0, 0, 0), 1);
        Check.same("21 in none by 21", coefficient(21, 0, 21), 1);
        Check.same("21 in 21 by none", coefficient(21, 21, 0), 1);
        Check.same("first not within the shape", coefficient(33, 4, 2), 0);
        Check.same("too few cells", coefficient(33, 2, 2), 0);
        Check.same("too many cells", coefficient(33, 21, 22), 0);
        Check.same("second greater than the shape", coefficient(1, 0, 84), 0);
        Check.same("444 in 222 by 222", coefficient(444, 222, 222), 1);
    }

    /** The second one's determinant is reckoned out term by term, each a product of rows added to the first. */
    private static void everyCoefficient() {
        for (int[] first : Samples.shapesUpTo(12)) {
            for (int[] second : Samples.shapesUpTo(12 - Samples.cells(first))) {
                if (rows(second) > 6) {
                    continue;
                }
                Map<Integer, Integer> product = new HashMap<>();
                Map<Integer, Integer> start = Map.of(Samples.digits(first), 1);
                expand(start, second, rows(second), 0, 0, 1, product);
                compare(first, second, product);
            }
        }
    }

    private static int rows(int[] parts) {
        int rows = 0;
        for (int part : parts) {
            rows += part > 0 ? 1 : 0;
        }
        return rows;
    }

    private static void expand(Map<Integer, Integer> sofar, int[] second, int size, int row, int taken, int sign,
            Map<Integer, Integer> product) {
        if (row == size) {
            sofar.forEach((shape, times) -> product.merge(shape, sign * times, Integer::sum));
            return;
        }
        for (int column = 0; column < size; column++) {
            int cells = second[row] - row + column;
            if ((taken >> column & 1) == 0 && cells >= 0) {
                int jumps = Integer.bitCount(taken >> (column + 1));
                expand(withRow(sofar, cells), second, size, row + 1, taken | 1 << column,
                    jumps % 2 == 0 ? sign : -sign, product);
            }
        }
    }

    /** Adds so many cells in all ways, at most one to each column. */
    private static Map<Integer, Integer> withRow(Map<Integer, Integer> shapes, int cells) {
        Map<Integer, Integer> grown = new HashMap<>();
        for (Map.Entry<Integer, Integer> entry : shapes.entrySet()) {
            int[] parts = new int[8];
            String text = entry.getKey() == 0 ? "" : entry.getKey().toString();
            for (int index = 0; index < text.length(); index++) {
                parts[index] = text.charAt(index) - '0';
            }
            grow(parts, parts.clone(), 0, cells, entry.getValue(), grown);
        }
        return grown;
    }

    private static void grow(int[] old, int[] parts, int row, int left, int times, Map<Integer, Integer> grown) {
        if (row == 8) {
            if (left == 0) {
                grown.merge(Samples.digits(parts), times, Integer::sum);
            }
            return;
        }
        int most = row == 0 ? 8 : old[row - 1];
        for (int added = 0; added <= left && old[row] + added <= most; added++) {
            parts[row] = old[row] + added;
            grow(old, parts, row + 1, left - added, times, grown);
        }
        parts[row] = old[row];
    }

    private static void compare(int[] first, int[] second, Map<Integer, Integer> product) {
        List<int[]> shapes = Samples.shapes(Samples.cells(first) + Samples.cells(second));
        Tableauhall hall = null;
        for (int index = 0; index < shapes.size(); index++) {
            if (index % 10 == 0) {
                hall = new Tableauhall();
                hall.shape(Samples.digits(first));
                hall.shape(Samples.digits(second));
            }
            int digits = Samples.digits(shapes.get(index));
            int shape = hall.shape(digits);
            int due = product.getOrDefault(digits, 0);
            String what = digits + " in " + Samples.digits(first) + " by " + Samples.digits(second);
            Check.same(what, hall.coefficient(shape, 0, 1), due);
            Check.same(what + ", turned", hall.coefficient(shape, 1, 0), due);
        }
    }

    private static void refused() {
        Tableauhall hall = new Tableauhall();
        hall.shape(21);
        int[] numbers = {-1, 1, 12, Integer.MIN_VALUE, Integer.MAX_VALUE};
        for (int number : numbers) {
            Check.refuses("coefficient of " + number, Check.NO_INDEX, () -> hall.coefficient(number, 0, 0));
            Check.refuses("coefficient by " + number, Check.NO_INDEX, () -> hall.coefficient(0, number, 0));
            Check.refuses("coefficient with " + number, Check.NO_INDEX, () -> hall.coefficient(0, 0, number));
        }
    }
}
