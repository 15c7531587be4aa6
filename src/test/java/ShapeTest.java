/** Promises 2 to 6: shape, size, part, column, hook. */
public final class ShapeTest {
    public static void main(String[] args) {
        everyShape();
        refusedParts();
        fullHall();
        refusedPlaces();
        Check.end("ShapeTest");
    }

    private static void everyShape() {
        for (int[] parts : Samples.shapesUpTo(12)) {
            Tableauhall hall = new Tableauhall();
            int digits = Samples.digits(parts);
            Check.same("shape(" + digits + ")", hall.shape(digits), 0);
            Check.same("size of " + digits, hall.size(0), Samples.cells(parts));
            for (int index = 0; index < 12; index++) {
                Check.same("part of " + digits, hall.part(0, index), index < 8 ? parts[index] : 0);
                Check.same("column of " + digits, hall.column(0, index), partsAbove(parts, index));
            }
            for (int row = 0; row < 8; row++) {
                for (int column = 0; column < 8; column++) {
                    checkHook(hall, parts, row, column);
                }
            }
        }
    }

    private static int partsAbove(int[] parts, int column) {
        int rows = 0;
        for (int part : parts) {
            rows += part > column ? 1 : 0;
        }
        return rows;
    }

    private static void checkHook(Tableauhall hall, int[] parts, int row, int column) {
        String what = "hook of " + Samples.digits(parts) + " at " + row + ", " + column;
        if (column >= parts[row]) {
            Check.refuses(what, Check.NO_ELEMENT, () -> hall.hook(0, row, column));
            return;
        }
        int cells = 0;
        for (int right = column; right < parts[row]; right++) {
            cells++;
        }
        for (int below = row + 1; below < 8 && parts[below] > column; below++) {
            cells++;
        }
        Check.same(what, hall.hook(0, row, column), cells);
    }

    private static void refusedParts() {
        Tableauhall hall = new Tableauhall();
        int[] refused = {-1, -21, Integer.MIN_VALUE, Integer.MAX_VALUE, 9, 10, 12, 20, 201, 91, 19, 122, 3213,
            111111111, 1111111111, 2111111111, 85, 76, 661, 222222211, 22222221, 543210, 5431, 88, 8888};
        for (int parts : refused) {
            Check.refuses("shape(" + parts + ")", Check.BAD_ARGUMENT, () -> hall.shape(parts));
        }
        Check.refuses("no shape is there after them", Check.NO_INDEX, () -> hall.size(0));
        int[] taken = {0, 8, 84, 66, 11111111, 22221111, 543, 1, 552, 444, 3333};
        for (int number = 0; number < taken.length; number++) {
            Check.same("shape(" + taken[number] + ")", hall.shape(taken[number]), number);
        }
    }

    private static void fullHall() {
        Tableauhall hall = new Tableauhall();
        for (int number = 0; number < 12; number++) {
            Check.same("shape of number " + number, hall.shape(21), number);
        }
        Check.refuses("the 13th shape", Check.BAD_STATE, () -> hall.shape(1));
        Check.refuses("the 13th shape, of no parts", Check.BAD_STATE, () -> hall.shape(0));
        Check.refuses("a wrong 13th shape", Check.BAD_ARGUMENT, () -> hall.shape(9));
        Check.same("size of the last shape", hall.size(11), 3);
        Check.refuses("size(12)", Check.NO_INDEX, () -> hall.size(12));
    }

    private static void refusedPlaces() {
        Tableauhall hall = new Tableauhall();
        hall.shape(321);
        int[] extreme = {-1, 12, 13, Integer.MIN_VALUE, Integer.MAX_VALUE};
        for (int index : extreme) {
            Check.refuses("size(" + index + ")", Check.NO_INDEX, () -> hall.size(index));
            Check.refuses("part of shape " + index, Check.NO_INDEX, () -> hall.part(index, 12));
            Check.refuses("column of shape " + index, Check.NO_INDEX, () -> hall.column(index, 12));
            Check.refuses("hook of shape " + index, Check.NO_INDEX, () -> hall.hook(index, 9, 9));
            Check.refuses("part " + index, Check.BAD_ARGUMENT, () -> hall.part(0, index));
            Check.refuses("column " + index, Check.BAD_ARGUMENT, () -> hall.column(0, index));
            Check.refuses("hook in row " + index, Check.NO_ELEMENT, () -> hall.hook(0, index, 0));
            Check.refuses("hook in column " + index, Check.NO_ELEMENT, () -> hall.hook(0, 0, index));
        }
        Check.refuses("part of shape 1", Check.NO_INDEX, () -> hall.part(1, 0));
        Check.refuses("column of shape 1", Check.NO_INDEX, () -> hall.column(1, 0));
        Check.refuses("hook of shape 1", Check.NO_INDEX, () -> hall.hook(1, 0, 0));
    }
}
