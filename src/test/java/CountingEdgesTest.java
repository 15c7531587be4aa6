/** Promises 7 to 12 at their edges; the comment of a method is the sentence of the document that it tests. */
public final class CountingEdgesTest {
    public static void main(String[] args) {
        tableauxOfNone();
        fewestAndMostTableaux();
        tableauxOfShapesThatAreNotThere();
        fillingsOfNone();
        fewestAndMostFillings();
        fillingsOfOtherSizes();
        characterOfNone();
        charactersAtTheirEdges();
        heightOddOrEven();
        charactersOfOtherSizes();
        pairsOfShapesThatAreNotThere();
        coreOfNone();
        coreByOneAndByTwelve();
        coreOutOfRange();
        coreOfShapesThatAreNotThere();
        coefficientOfNone();
        coefficientOfShapesNotWithin();
        coefficientOfOtherSizes();
        readingOfTheWriting();
        coefficientOfShapesThatAreNotThere();
        sameShapeTwice();
        Check.end("CountingEdgesTest");
    }

    private static void tableaux(int shape, long due) {
        Tableauhall hall = Samples.hallOf(shape);
        Check.same("tableaux of " + shape, hall.tableaux(0), due);
        Check.same("tableauxAnew of " + shape, hall.tableauxAnew(0), due);
    }

    /** "A shape without cells has one standard tableau". */
    private static void tableauxOfNone() {
        tableaux(0, 1L);
    }

    /** The hooks of 12 cells: their product and that of 1 to 12 are far greater than the answer. */
    private static void fewestAndMostTableaux() {
        tableaux(1, 1L);
        tableaux(8, 1L);
        tableaux(11111111, 1L);
        tableaux(81, 8L);
        tableaux(21111111, 8L);
        tableaux(84, 275L);
        tableaux(22221111, 275L);
        tableaux(81111, 330L);
        tableaux(51111111, 330L);
        tableaux(66, 132L);
        tableaux(222222, 132L);
        tableaux(5421, 5775L);
        tableaux(43221, 5775L);
        tableaux(53211, 7700L);
    }

    /** Promises 7 and 8: "IndexOutOfBoundsException if there is no such shape". */
    private static void tableauxOfShapesThatAreNotThere() {
        for (int made : new int[] {0, 1, 12}) {
            Tableauhall hall = Samples.hallOf(new int[made]);
            for (int shape : new int[] {Integer.MIN_VALUE, -1, made, made + 1, Integer.MAX_VALUE}) {
                Check.refuses("tableaux of " + shape, Check.NO_INDEX, () -> hall.tableaux(shape));
                Check.refuses("tableauxAnew of " + shape, Check.NO_INDEX, () -> hall.tableauxAnew(shape));
            }
        }
        Tableauhall full = Samples.fullHall();
        Check.same("tableaux of the last of 12", full.tableaux(11), 7700L);
        Check.same("tableauxAnew of the last of 12", full.tableauxAnew(11), 7700L);
    }

    private static void fillings(int shape, int other, int due) {
        Tableauhall hall = Samples.hallOf(shape, other);
        Check.same("fillings of " + shape + " by " + other, hall.fillings(0, 1), due);
    }

    /** "A shape without cells has .. one filling by such a shape". */
    private static void fillingsOfNone() {
        fillings(0, 0, 1);
        Tableauhall hall = Samples.hallOf(0);
        Check.same("fillings of none by itself", hall.fillings(0, 0), 1);
    }

    /** "never less to the right, and greater downward". */
    private static void fewestAndMostFillings() {
        fillings(1, 1, 1);
        fillings(2, 2, 1);
        fillings(2, 11, 1);
        fillings(11, 2, 0);
        fillings(11, 11, 1);
        fillings(8, 11111111, 1);
        fillings(11111111, 8, 0);
        fillings(11111111, 11111111, 1);
        fillings(11111111, 2111111, 0);
        fillings(21, 111, 2);
        fillings(84, 84, 1);
        fillings(84, 75, 1);
        fillings(75, 84, 0);
        fillings(84, 22221111, 76);
        fillings(22221111, 22221111, 1);
        fillings(22221111, 84, 0);
        fillings(22221111, 32211111, 0);
        fillings(66, 3333, 4);
        fillings(321, 2211, 4);
    }

    /** Promise 9: "IllegalArgumentException if they have not as many cells". */
    private static void fillingsOfOtherSizes() {
        Tableauhall hall = Samples.hallOf(0, 1, 2, 11, 83, 84, 22221111, 2222111);
        int[] cells = {0, 1, 2, 2, 11, 12, 12, 11};
        for (int one = 0; one < cells.length; one++) {
            for (int another = 0; another < cells.length; another++) {
                if (cells[one] != cells[another]) {
                    int shape = one;
                    int other = another;
                    Check.refuses("fillings of " + cells[one] + " cells by " + cells[another], Check.BAD_ARGUMENT,
                        () -> hall.fillings(shape, other));
                }
            }
        }
    }

    private static void character(int shape, int other, int due) {
        Tableauhall hall = Samples.hallOf(shape, other);
        Check.same("character of " + shape + " at " + other, hall.character(0, 1), due);
    }

    /** "1 for none"; "A shape without cells has .. the character 1 at it". */
    private static void characterOfNone() {
        character(0, 0, 1);
        Tableauhall hall = Samples.hallOf(0);
        Check.same("character of none at itself", hall.character(0, 0), 1);
    }

    /** "the sum over all ribbons with as many cells as the other one's first part", no ribbon or a whole shape too. */
    private static void charactersAtTheirEdges() {
        character(1, 1, 1);
        character(22, 4, 0);
        character(3333, 84, 0);
        character(66, 84, 0);
        character(444, 8211, 0);
        character(8, 8, 1);
        character(84, 84, 1);
        character(84, 22221111, 11);
        character(66, 22221111, 4);
        character(4211, 11111111, 90);
        character(11111111, 11111111, 1);
        character(31, 31, 0);
        character(21, 3, -1);
        character(22, 22, 2);
        character(22, 31, -1);
        character(81111, 8211, 0);
    }

    /** "with the other sign if the height is odd". */
    private static void heightOddOrEven() {
        character(2, 2, 1);
        character(11, 2, -1);
        character(3, 3, 1);
        character(21, 3, -1);
        character(111, 3, 1);
        character(4, 4, 1);
        character(31, 4, -1);
        character(211, 4, 1);
        character(1111, 4, -1);
        character(11111111, 8, -1);
        character(2111111, 8, 1);
        character(1111111, 7, 1);
        character(71, 8, -1);
    }

    /** Promise 10: "IllegalArgumentException if they have not as many cells". */
    private static void charactersOfOtherSizes() {
        Tableauhall hall = Samples.hallOf(0, 1, 2, 11, 83, 84, 22221111, 2222111);
        int[] cells = {0, 1, 2, 2, 11, 12, 12, 11};
        for (int one = 0; one < cells.length; one++) {
            for (int another = 0; another < cells.length; another++) {
                if (cells[one] != cells[another]) {
                    int shape = one;
                    int other = another;
                    Check.refuses("character of " + cells[one] + " cells at " + cells[another], Check.BAD_ARGUMENT,
                        () -> hall.character(shape, other));
                }
            }
        }
    }

    /** Promises 9 and 10: "IndexOutOfBoundsException if there is no such shape, for either". */
    private static void pairsOfShapesThatAreNotThere() {
        for (int made : new int[] {0, 1, 12}) {
            Tableauhall hall = Samples.hallOf(new int[made]);
            for (int wrong : new int[] {Integer.MIN_VALUE, -1, made, made + 1, Integer.MAX_VALUE}) {
                for (int other : new int[] {Integer.MIN_VALUE, -1, 0, made, Integer.MAX_VALUE}) {
                    String what = wrong + " and " + other;
                    Check.refuses("fillings " + what, Check.NO_INDEX, () -> hall.fillings(wrong, other));
                    Check.refuses("fillings, turned, " + what, Check.NO_INDEX, () -> hall.fillings(other, wrong));
                    Check.refuses("character " + what, Check.NO_INDEX, () -> hall.character(wrong, other));
                    Check.refuses("character, turned, " + what, Check.NO_INDEX, () -> hall.character(other, wrong));
                }
            }
        }
        Tableauhall full = Samples.fullHall();
        Check.same("fillings of the last of 12", full.fillings(11, 11), 1);
        Check.same("character of the last of 12 at another one", full.character(11, 4), 0);
    }

    /** "what is left when ribbons of this many cells are taken away as long as there is one", of none. */
    private static void coreOfNone() {
        Tableauhall hall = Samples.hallOf(0);
        for (int cells = 1; cells <= 12; cells++) {
            Check.same("core of none for " + cells, hall.core(0, cells), 0);
        }
    }

    /** "the number of cells of the ribbons, 1 to 12". */
    private static void coreByOneAndByTwelve() {
        int[] shapes = {1, 2, 21, 321, 84, 66, 81111, 51111111, 22221111, 3333, 62211, 4321};
        int[] byTwo = {1, 0, 3, 6, 0, 0, 0, 0, 0, 0, 0, 10};
        int[] byTwelve = {1, 2, 3, 6, 12, 12, 0, 0, 12, 12, 12, 10};
        Tableauhall hall = Samples.hallOf(shapes);
        for (int shape = 0; shape < 12; shape++) {
            Check.same("core of " + shapes[shape] + " for 1", hall.core(shape, 1), 0);
            Check.same("core of " + shapes[shape] + " for 2", hall.core(shape, 2), byTwo[shape]);
            Check.same("core of " + shapes[shape] + " for 12", hall.core(shape, 12), byTwelve[shape]);
        }
        Check.same("core of 81111 for 11", hall.core(6, 11), 12);
        Check.same("core of 84 for 10", hall.core(4, 10), 12);
        Check.same("core of 84 for 9", hall.core(4, 9), 3);
    }

    /** Promise 11: "IllegalArgumentException if it is out of range". */
    private static void coreOutOfRange() {
        Tableauhall hall = Samples.hallOf(0, 84, 321);
        for (int shape = 0; shape < 3; shape++) {
            int asked = shape;
            for (int cells : new int[] {Integer.MIN_VALUE, -12, -1, 0, 13, 32, 33, Integer.MAX_VALUE}) {
                Check.refuses("core for " + cells, Check.BAD_ARGUMENT, () -> hall.core(asked, cells));
            }
        }
    }

    /** Promise 11: "IndexOutOfBoundsException if there is no such shape", ahead of a wrong number of cells. */
    private static void coreOfShapesThatAreNotThere() {
        for (int made : new int[] {0, 1, 12}) {
            Tableauhall hall = Samples.hallOf(new int[made]);
            for (int shape : new int[] {Integer.MIN_VALUE, -1, made, made + 1, Integer.MAX_VALUE}) {
                for (int cells : new int[] {Integer.MIN_VALUE, -1, 0, 1, 12, 13, Integer.MAX_VALUE}) {
                    Check.refuses("core of " + shape + " for " + cells, Check.NO_INDEX,
                        () -> hall.core(shape, cells));
                }
            }
        }
    }

    private static void coefficient(int shape, int first, int second, int due) {
        Tableauhall hall = Samples.hallOf(shape, first, second);
        Check.same("coefficient of " + shape + " in " + first + " by " + second, hall.coefficient(0, 1, 2), due);
    }

    /** No cell is left to write a number in: one way. */
    private static void coefficientOfNone() {
        coefficient(0, 0, 0, 1);
        coefficient(84, 84, 0, 1);
        coefficient(84, 0, 84, 1);
        coefficient(22221111, 22221111, 0, 1);
        coefficient(22221111, 0, 22221111, 1);
        coefficient(1, 1, 0, 1);
        coefficient(1, 0, 1, 1);
        coefficient(321, 0, 222, 0);
    }

    /** "It is 0 if the first one is not within the shape". */
    private static void coefficientOfShapesNotWithin() {
        coefficient(33, 4, 2, 0);
        coefficient(33, 4, 11, 0);
        coefficient(33, 111, 3, 0);
        coefficient(33, 111, 21, 0);
        coefficient(8, 1, 61, 0);
        coefficient(8, 11, 6, 0);
        coefficient(11111111, 2, 111111, 0);
        coefficient(84, 444, 0, 0);
        coefficient(2, 11, 0, 0);
        coefficient(75, 66, 0, 0);
    }

    /** "or the cells are not as many". */
    private static void coefficientOfOtherSizes() {
        coefficient(0, 0, 1, 0);
        coefficient(0, 1, 0, 0);
        coefficient(1, 0, 0, 0);
        coefficient(1, 1, 1, 0);
        coefficient(33, 3, 2, 0);
        coefficient(33, 3, 31, 0);
        coefficient(33, 3, 22, 0);
        coefficient(84, 84, 84, 0);
        coefficient(84, 84, 1, 0);
        coefficient(84, 83, 0, 0);
        coefficient(0, 84, 84, 0);
    }

    /** "at each place no number has come more often than the one that is 1 less", and how the cells are read. */
    private static void readingOfTheWriting() {
        coefficient(2, 1, 1, 1);
        coefficient(11, 1, 1, 1);
        coefficient(21, 1, 2, 1);
        coefficient(21, 1, 11, 1);
        coefficient(22, 1, 21, 1);
        coefficient(22, 11, 11, 1);
        coefficient(22, 11, 2, 0);
        coefficient(22, 2, 2, 1);
        coefficient(22, 2, 11, 0);
        coefficient(321, 21, 21, 2);
        coefficient(321, 21, 3, 1);
        coefficient(321, 21, 111, 1);
        coefficient(11111111, 1111, 1111, 1);
        coefficient(8, 4, 4, 1);
        coefficient(4321, 321, 31, 3);
        coefficient(4321, 321, 211, 3);
    }

    /** Promise 12: "IndexOutOfBoundsException if there is no such shape, for one of the three". */
    private static void coefficientOfShapesThatAreNotThere() {
        for (int made : new int[] {0, 1, 12}) {
            Tableauhall hall = Samples.hallOf(new int[made]);
            for (int wrong : new int[] {Integer.MIN_VALUE, -1, made, made + 1, Integer.MAX_VALUE}) {
                String what = "coefficient with " + wrong + " of " + made;
                Check.refuses(what + ", shape", Check.NO_INDEX, () -> hall.coefficient(wrong, 0, 0));
                Check.refuses(what + ", first", Check.NO_INDEX, () -> hall.coefficient(0, wrong, 0));
                Check.refuses(what + ", second", Check.NO_INDEX, () -> hall.coefficient(0, 0, wrong));
                Check.refuses(what + ", all", Check.NO_INDEX, () -> hall.coefficient(wrong, wrong, wrong));
            }
        }
        Tableauhall hall = Samples.hallOf(1, 84);
        for (int wrong : new int[] {Integer.MIN_VALUE, -1, 2, Integer.MAX_VALUE}) {
            Check.refuses("no second, first too great", Check.NO_INDEX, () -> hall.coefficient(0, 1, wrong));
            Check.refuses("no first, too many cells", Check.NO_INDEX, () -> hall.coefficient(0, wrong, 1));
        }
        Tableauhall full = Samples.fullHall();
        Check.same("coefficient of the last of 12", full.coefficient(11, 11, 0), 1);
    }

    /** One shape may stand for both arguments. */
    private static void sameShapeTwice() {
        Tableauhall hall = Samples.hallOf(321, 21);
        Check.same("fillings by itself", hall.fillings(0, 0), 1);
        Check.same("character at itself", hall.character(0, 0), 0);
        Check.same("coefficient in itself by itself", hall.coefficient(0, 0, 0), 0);
        Check.same("coefficient of a square", hall.coefficient(0, 1, 1), 2);
    }
}
