/** Promises 7 to 9: tableaux, tableauxAnew, fillings. */
public final class TableauxTest {
    public static void main(String[] args) {
        knownNumbers();
        everyTableau();
        everyFilling();
        refused();
        Check.end("TableauxTest");
    }

    private static void knownNumbers() {
        checkTableaux(0, 1);
        checkTableaux(1, 1);
        checkTableaux(21, 2);
        checkTableaux(321, 16);
        checkTableaux(333, 42);
        checkTableaux(66, 132);
        checkTableaux(444, 462);
        checkTableaux(4321, 768);
        checkTableaux(53211, 7700);
    }

    private static void checkTableaux(int digits, long due) {
        Tableauhall hall = new Tableauhall();
        int shape = hall.shape(digits);
        Check.same("tableaux of " + digits, hall.tableaux(shape), due);
        Check.same("tableauxAnew of " + digits, hall.tableauxAnew(shape), due);
    }

    private static void everyTableau() {
        for (int[] parts : Samples.shapesUpTo(12)) {
            checkTableaux(Samples.digits(parts), waysToBuild(parts));
        }
    }

    private static long waysToBuild(int[] parts) {
        long ways = 0;
        boolean empty = true;
        for (int row = 0; row < 8; row++) {
            empty &= parts[row] == 0;
            if (parts[row] > (row == 7 ? 0 : parts[row + 1])) {
                parts[row]--;
                ways += waysToBuild(parts);
                parts[row]++;
            }
        }
        return empty ? 1 : ways;
    }

    private static void everyFilling() {
        for (int cells = 0; cells <= 12; cells++) {
            for (int[] other : Samples.shapes(cells)) {
                Tableauhall hall = new Tableauhall();
                hall.shape(Samples.digits(other));
                int made = 1;
                for (int[] shape : Samples.shapes(cells)) {
                    if (made == 12) {
                        hall = new Tableauhall();
                        hall.shape(Samples.digits(other));
                        made = 1;
                    }
                    hall.shape(Samples.digits(shape));
                    Check.same("fillings of " + Samples.digits(shape) + " by " + Samples.digits(other),
                        hall.fillings(made, 0), (int) waysToStrip(shape.clone(), other, 7));
                    made++;
                }
            }
        }
    }

    /** The cells with the greatest number are taken away, at most one from each column, and so on. */
    private static long waysToStrip(int[] shape, int[] other, int number) {
        return number < 0 ? 1 : waysToStripFrom(shape, shape.clone(), other, number, 0, other[number]);
    }

    private static long waysToStripFrom(int[] shape, int[] whole, int[] other, int number, int row, int left) {
        if (row == 8) {
            return left == 0 ? waysToStrip(shape, other, number - 1) : 0;
        }
        long ways = 0;
        int below = row == 7 ? 0 : whole[row + 1];
        for (int cells = 0; cells <= left && shape[row] - cells >= below; cells++) {
            int[] rest = shape.clone();
            rest[row] -= cells;
            ways += waysToStripFrom(rest, whole, other, number, row + 1, left - cells);
        }
        return ways;
    }

    private static void refused() {
        Tableauhall hall = new Tableauhall();
        hall.shape(21);
        hall.shape(22);
        int[] numbers = {-1, 2, 12, Integer.MIN_VALUE, Integer.MAX_VALUE};
        for (int number : numbers) {
            Check.refuses("tableaux(" + number + ")", Check.NO_INDEX, () -> hall.tableaux(number));
            Check.refuses("tableauxAnew(" + number + ")", Check.NO_INDEX, () -> hall.tableauxAnew(number));
            Check.refuses("fillings(" + number + ", 0)", Check.NO_INDEX, () -> hall.fillings(number, 0));
            Check.refuses("fillings(0, " + number + ")", Check.NO_INDEX, () -> hall.fillings(0, number));
        }
        Check.refuses("fillings(0, 1)", Check.BAD_ARGUMENT, () -> hall.fillings(0, 1));
        Check.refuses("fillings(1, 0)", Check.BAD_ARGUMENT, () -> hall.fillings(1, 0));
        Check.same("fillings(0, 0)", hall.fillings(0, 0), 1);
    }
}
