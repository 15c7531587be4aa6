/** Promises 2 to 6 at their edges; the comment of a method is the sentence of the document that it tests. */
public final class ShapeEdgesTest {
    public static void main(String[] args) {
        none();
        firstPartFirst();
        belowNone();
        partOfNone();
        partOfNine();
        partGreaterThanTheOneAhead();
        tooManyParts();
        tooManyCells();
        theGreatestInt();
        everyNumberOfFiveDigits();
        numbersBesideShapes();
        twelveShapes();
        refusedBeforeFull();
        sizes();
        shapesThatAreNotThere();
        partBehindTheLast();
        columnBehindTheLast();
        indexFromNoneToEleven();
        leastAndGreatestHook();
        hookWithoutCell();
        Check.end("ShapeEdgesTest");
    }

    private static void refused(int parts) {
        Tableauhall hall = new Tableauhall();
        Check.refuses("shape(" + parts + ")", Check.BAD_ARGUMENT, () -> hall.shape(parts));
        Check.refuses("size behind shape(" + parts + ")", Check.NO_INDEX, () -> hall.size(0));
        Check.refuses("meanSize behind shape(" + parts + ")", Check.BAD_SUM, hall::meanSize);
        Check.same("the next shape behind shape(" + parts + ")", hall.shape(21), 0);
    }

    private static void taken(int parts, int cells) {
        Tableauhall hall = new Tableauhall();
        Check.same("shape(" + parts + ")", hall.shape(parts), 0);
        Check.same("size of " + parts, hall.size(0), cells);
        int left = parts;
        for (int index = Samples.written(parts).length() - 1; index >= 0; index--) {
            Check.same("part " + index + " of " + parts, hall.part(0, index), left % 10);
            left /= 10;
        }
    }

    /** "0 for none"; "it can have none". */
    private static void none() {
        Tableauhall hall = new Tableauhall();
        Check.same("shape(0)", hall.shape(0), 0);
        Check.same("size of none", hall.size(0), 0);
        for (int index = 0; index <= 11; index++) {
            Check.same("part of none", hall.part(0, index), 0);
            Check.same("column of none", hall.column(0, index), 0);
        }
        Check.refuses("hook of none", Check.NO_ELEMENT, () -> hall.hook(0, 0, 0));
        Check.same("a second shape of none is another one", hall.shape(0), 1);
        taken(1, 1);
    }

    /** "its parts, as the digits of a number, the first part first". */
    private static void firstPartFirst() {
        Tableauhall hall = Samples.hallOf(543);
        Check.same("first part of 543", hall.part(0, 0), 5);
        Check.same("second part of 543", hall.part(0, 1), 4);
        Check.same("last part of 543", hall.part(0, 2), 3);
        Check.same("first column of 543", hall.column(0, 0), 3);
        Check.same("last column of 543", hall.column(0, 4), 1);
    }

    /** "IllegalArgumentException if the number is below 0". */
    private static void belowNone() {
        for (int parts : new int[] {-1, -8, -9, -10, -21, -22221111, Integer.MIN_VALUE + 1, Integer.MIN_VALUE}) {
            refused(parts);
        }
    }

    /** "a part is 0". */
    private static void partOfNone() {
        for (int parts : new int[] {10, 80, 100, 101, 110, 201, 210, 3021, 11111110, 10000000, 1000000000}) {
            refused(parts);
        }
    }

    /** "a part is .. 9"; "parts from 1 to 8". */
    private static void partOfNine() {
        for (int parts : new int[] {9, 91, 92, 93, 911, 921, 9111}) {
            refused(parts);
        }
        taken(8, 8);
        taken(81, 9);
        taken(84, 12);
        taken(8211, 12);
    }

    /** "a part is .. greater than the one ahead of it". */
    private static void partGreaterThanTheOneAhead() {
        for (int parts : new int[] {12, 23, 34, 45, 48, 56, 57, 18, 212, 121, 3231, 11112, 11121, 11111112}) {
            refused(parts);
        }
        taken(11, 2);
        taken(22, 4);
        taken(66, 12);
        taken(75, 12);
        taken(332, 8);
    }

    /** "there are too many"; "at most 8". */
    private static void tooManyParts() {
        taken(1111111, 7);
        taken(11111111, 8);
        taken(51111111, 12);
        refused(111111111);
        refused(211111111);
        refused(221111111);
        refused(1111111111);
        refused(2111111111);
    }

    /** "or too many cells"; "that are at most 12 together". */
    private static void tooManyCells() {
        for (int[] parts : Samples.shapes(12)) {
            taken(Samples.digits(parts), 12);
        }
        for (int cells = 13; cells <= 18; cells++) {
            for (int[] parts : Samples.shapes(cells)) {
                refused(Samples.digits(parts));
            }
        }
        for (int parts : new int[] {85, 76, 661, 88, 4441, 33331, 22222111, 52111111, 88888888}) {
            refused(parts);
        }
    }

    private static void theGreatestInt() {
        refused(Integer.MAX_VALUE);
        refused(Integer.MAX_VALUE - 1);
        refused(999999999);
        refused(1999999999);
    }

    private static void everyNumberOfFiveDigits() {
        Tableauhall hall = new Tableauhall();
        int made = 0;
        for (int parts = 0; parts <= 99999; parts++) {
            if (made == 12 || parts % 400 == 0) {
                hall = new Tableauhall();
                made = 0;
            }
            made += compare(hall, parts, made);
        }
    }

    /** All shapes with a digit more, less or changed. */
    private static void numbersBesideShapes() {
        for (int[] parts : Samples.shapesUpTo(12)) {
            int digits = Samples.digits(parts);
            for (int unit = 1; unit <= 10000000 && unit <= digits; unit *= 10) {
                compare(new Tableauhall(), digits + unit, 0);
                compare(new Tableauhall(), digits - unit, 0);
                for (int digit = 0; digit <= 9; digit++) {
                    int pushed = digits / unit * unit * 10 + digit * unit + digits % unit;
                    if (digits < 100000000) {
                        compare(new Tableauhall(), pushed, 0);
                    }
                }
            }
        }
    }

    /** Returns 1 if a shape comes by it, 0 if not. */
    private static int compare(Tableauhall hall, int parts, int number) {
        if (Samples.tellsShape(parts)) {
            Check.same("shape(" + parts + ")", hall.shape(parts), number);
            return 1;
        }
        Check.refuses("shape(" + parts + ")", Check.BAD_ARGUMENT, () -> hall.shape(parts));
        return 0;
    }

    /** "At most 12 shapes are numbered from 0"; "IllegalStateException if there are 12 shapes". */
    private static void twelveShapes() {
        Tableauhall hall = new Tableauhall();
        for (int number = 0; number < 12; number++) {
            Check.same("shape of number " + number, hall.shape(number == 11 ? 22 : 21), number);
        }
        Check.refuses("the 13th shape", Check.BAD_STATE, () -> hall.shape(1));
        Check.refuses("the 13th shape, of none", Check.BAD_STATE, () -> hall.shape(0));
        Check.refuses("the 13th shape, once more", Check.BAD_STATE, () -> hall.shape(84));
        Check.same("size of the last shape", hall.size(11), 4);
        Check.same("size of the first shape", hall.size(0), 3);
        Check.refuses("size of the 13th shape", Check.NO_INDEX, () -> hall.size(12));
        Check.same("meanSize of 12 shapes", hall.meanSize(), 37.0 / 12.0);
        Check.same("words are counted by themselves", hall.word(), 0);
    }

    /** "If several exceptions apply, the one that is documented first is thrown", for promise 2. */
    private static void refusedBeforeFull() {
        Tableauhall hall = Samples.fullHall();
        for (int parts : new int[] {Integer.MIN_VALUE, -1, 9, 10, 12, 85, 111111111, Integer.MAX_VALUE}) {
            Check.refuses("a full hall's shape(" + parts + ")", Check.BAD_ARGUMENT, () -> hall.shape(parts));
        }
    }

    /** "Returns the number of cells", from none to 12. */
    private static void sizes() {
        int[] shapes = {0, 1, 2, 21, 22, 5, 321, 7, 8, 333, 4321, 22221111};
        int[] sizes = {0, 1, 2, 3, 4, 5, 6, 7, 8, 9, 10, 12};
        Tableauhall hall = Samples.hallOf(shapes);
        for (int number = 0; number < 12; number++) {
            Check.same("size of " + shapes[number], hall.size(number), sizes[number]);
        }
    }

    /** "IndexOutOfBoundsException if there is no such shape", which comes ahead of a wrong index or cell. */
    private static void shapesThatAreNotThere() {
        for (int made : new int[] {0, 1, 11, 12}) {
            Tableauhall hall = Samples.hallOf(new int[made]);
            for (int shape : new int[] {Integer.MIN_VALUE, -1, made, 13, Integer.MAX_VALUE}) {
                Check.refuses("size of " + shape, Check.NO_INDEX, () -> hall.size(shape));
                for (int wrong : new int[] {Integer.MIN_VALUE, -1, 0, 12, Integer.MAX_VALUE}) {
                    String what = shape + " of " + made + ", " + wrong;
                    Check.refuses("part of " + what, Check.NO_INDEX, () -> hall.part(shape, wrong));
                    Check.refuses("column of " + what, Check.NO_INDEX, () -> hall.column(shape, wrong));
                    Check.refuses("hook of " + what, Check.NO_INDEX, () -> hall.hook(shape, wrong, wrong));
                }
            }
            if (made > 0) {
                Check.same("size of the last one of " + made, hall.size(made - 1), 0);
            }
        }
    }

    /** Promise 4: "Returns the part, 0 behind the last one". */
    private static void partBehindTheLast() {
        Tableauhall hall = Samples.hallOf(51111111, 8, 66);
        Check.same("the eighth part", hall.part(0, 7), 1);
        Check.same("behind the eighth part", hall.part(0, 8), 0);
        Check.same("the only part", hall.part(1, 0), 8);
        Check.same("behind the only part", hall.part(1, 1), 0);
        Check.same("the second part", hall.part(2, 1), 6);
        Check.same("behind the second part", hall.part(2, 2), 0);
        for (int shape = 0; shape < 3; shape++) {
            Check.same("part 9", hall.part(shape, 9), 0);
            Check.same("part 10", hall.part(shape, 10), 0);
            Check.same("part 11", hall.part(shape, 11), 0);
        }
    }

    /** Promise 5: "Returns the part, 0 behind the last one"; "Turned over, its rows become columns". */
    private static void columnBehindTheLast() {
        Tableauhall hall = Samples.hallOf(84, 11111111, 66);
        Check.same("the fourth column", hall.column(0, 3), 2);
        Check.same("the fifth column", hall.column(0, 4), 1);
        Check.same("the eighth column", hall.column(0, 7), 1);
        Check.same("behind the eighth column", hall.column(0, 8), 0);
        Check.same("the only column", hall.column(1, 0), 8);
        Check.same("behind the only column", hall.column(1, 1), 0);
        Check.same("the sixth column", hall.column(2, 5), 2);
        Check.same("behind the sixth column", hall.column(2, 6), 0);
        for (int shape = 0; shape < 3; shape++) {
            Check.same("column 9", hall.column(shape, 9), 0);
            Check.same("column 10", hall.column(shape, 10), 0);
            Check.same("column 11", hall.column(shape, 11), 0);
        }
    }

    /** Promises 4 and 5: "IllegalArgumentException if the index is not from 0 to 11". */
    private static void indexFromNoneToEleven() {
        Tableauhall hall = Samples.hallOf(321, 0, 11111111, 84);
        for (int number = 0; number < 4; number++) {
            int shape = number;
            for (int index : new int[] {Integer.MIN_VALUE, -12, -1, 12, 13, Integer.MAX_VALUE}) {
                Check.refuses("part " + index, Check.BAD_ARGUMENT, () -> hall.part(shape, index));
                Check.refuses("column " + index, Check.BAD_ARGUMENT, () -> hall.column(shape, index));
            }
        }
    }

    /** "The hook of a cell is the number of cells to its right in its row and below it in its column, and itself." */
    private static void leastAndGreatestHook() {
        Tableauhall hall = Samples.hallOf(1, 8, 11111111, 51111111, 81111, 66);
        Check.same("hook of the only cell", hall.hook(0, 0, 0), 1);
        Check.same("first hook of a row", hall.hook(1, 0, 0), 8);
        Check.same("last hook of a row", hall.hook(1, 0, 7), 1);
        Check.same("first hook of a column", hall.hook(2, 0, 0), 8);
        Check.same("last hook of a column", hall.hook(2, 7, 0), 1);
        Check.same("the greatest hook of 8 rows", hall.hook(3, 0, 0), 12);
        Check.same("the greatest hook of 8 columns", hall.hook(4, 0, 0), 12);
        Check.same("last hook of the first row", hall.hook(5, 0, 5), 2);
        Check.same("last hook of the last row", hall.hook(5, 1, 5), 1);
    }

    /** Promise 6: "NoSuchElementException if it has no such cell". */
    private static void hookWithoutCell() {
        Tableauhall hall = Samples.hallOf(321, 8, 11111111, 0, 66);
        int[][] without = {{0, 3}, {1, 2}, {2, 1}, {3, 0}, {-1, 0}, {0, -1}, {-1, -1}, {1, -1}, {-1, 1}};
        for (int[] cell : without) {
            noHook(hall, 0, cell[0], cell[1]);
        }
        int[][] places = {{0, 8}, {1, 0}, {1, -8}, {0, 12}, {1, -12}};
        for (int[] cell : places) {
            noHook(hall, 1, cell[0], cell[1]);
        }
        noHook(hall, 2, 8, 0);
        noHook(hall, 2, 7, 1);
        noHook(hall, 2, 0, 1);
        noHook(hall, 3, 0, 0);
        noHook(hall, 4, 0, 6);
        noHook(hall, 4, 2, 0);
        noHook(hall, 4, 0, 8);
        for (int far : new int[] {Integer.MIN_VALUE, Integer.MAX_VALUE, 1 << 28, 1 << 29, 1 << 30, -(1 << 30)}) {
            for (int shape = 0; shape < 5; shape++) {
                noHook(hall, shape, far, 0);
                noHook(hall, shape, 0, far);
                noHook(hall, shape, far, far);
            }
        }
    }

    private static void noHook(Tableauhall hall, int shape, int row, int column) {
        Check.refuses("hook of shape " + shape + " at " + row + ", " + column, Check.NO_ELEMENT,
            () -> hall.hook(shape, row, column));
    }
}
