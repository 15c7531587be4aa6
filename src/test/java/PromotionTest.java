import java.util.ArrayList;
import java.util.Arrays;
import java.util.List;

/** Promise 24: orbit. */
public final class PromotionTest {
    public static void main(String[] args) {
        knownOrbits();
        everyOrbit();
        bounds();
        refused();
        Check.end("PromotionTest");
    }

    private static int orbit(int most, int... letters) {
        Tableauhall hall = new Tableauhall();
        return hall.orbit(Samples.put(hall, letters), most);
    }

    private static void knownOrbits() {
        Check.same("of none", orbit(1), 1);
        Check.same("of one letter", orbit(1, 5), 1);
        Check.same("of a row", orbit(200, 1, 2, 3, 4), 1);
        Check.same("of a column", orbit(200, 4, 3, 2, 1), 1);
        Check.same("of three rows of three", orbit(200, 7, 8, 9, 4, 5, 6, 1, 2, 3), 3);
        Check.same("of 2 rows of 2", orbit(200, 2, 1, 4, 3), 2);
        Check.same("by too few", orbit(1, 2, 1, 4, 3), 0);
        Check.same("by just enough", orbit(2, 2, 1, 4, 3), 2);
        Check.same("of 1 and 2 in a row and 3 below", orbit(200, 1, 3, 2), 2);
        Check.same("of 33 promotions", orbit(200, 1, 2, 3, 1, 2, 3, 1, 2, 3), 33);
        Check.same("of 33 promotions by 32", orbit(32, 1, 2, 3, 1, 2, 3, 1, 2, 3), 0);
        Check.same("of 33 promotions by 33", orbit(33, 1, 2, 3, 1, 2, 3, 1, 2, 3), 33);
    }

    private static void everyOrbit() {
        for (int[] letters : Samples.words(600)) {
            int due = slowOrbit(letters, 200);
            Tableauhall hall = new Tableauhall();
            int word = Samples.put(hall, letters);
            String what = "orbit of " + Arrays.toString(letters);
            Check.same(what, hall.orbit(word, 200), due);
            if (due > 1) {
                Check.same(what + " by too few", hall.orbit(word, due - 1), 0);
                Check.same(what + " by enough", hall.orbit(word, due), due);
            }
            Check.same(what + " once more", hall.orbit(word, 200), due);
        }
    }

    static int slowOrbit(int[] letters, int most) {
        List<List<Integer>> first = new ArrayList<>();
        List<List<Integer>> second = new ArrayList<>();
        for (int index = 0; index < letters.length; index++) {
            WordTest.insert(first, second, letters[index], index + 1);
        }
        List<List<Integer>> now = second;
        for (int done = 1; done <= most; done++) {
            now = promoted(now, letters.length);
            if (now.equals(second)) {
                return done;
            }
        }
        return 0;
    }

    private static List<List<Integer>> promoted(List<List<Integer>> tableau, int greatest) {
        List<List<Integer>> next = new ArrayList<>();
        for (List<Integer> row : tableau) {
            next.add(new ArrayList<>(row));
        }
        int row = 0;
        int column = 0;
        while (Math.min(at(next, row, column + 1), at(next, row + 1, column)) < 99) {
            boolean right = at(next, row, column + 1) < at(next, row + 1, column);
            next.get(row).set(column, right ? at(next, row, column + 1) : at(next, row + 1, column));
            row += right ? 0 : 1;
            column += right ? 1 : 0;
        }
        if (greatest > 0) {
            next.get(row).set(column, greatest + 1);
        }
        for (List<Integer> numbers : next) {
            numbers.replaceAll(number -> number - 1);
        }
        return next;
    }

    private static int at(List<List<Integer>> tableau, int row, int column) {
        return row < tableau.size() && column < tableau.get(row).size() ? tableau.get(row).get(column) : 99;
    }

    /** The word and its tableaux stay as they are, and 200 promotions are done. */
    private static void bounds() {
        int[] longest = null;
        for (int[] letters : Samples.words(3000)) {
            if (letters.length == 12 && slowOrbit(letters, 201) == 0) {
                longest = letters;
                break;
            }
        }
        Check.same("there is a word with a long orbit", longest != null, true);
        Tableauhall hall = new Tableauhall();
        int word = Samples.put(hall, longest);
        Check.same("its orbit", hall.orbit(word, 200), 0);
        Check.same("its letters", Arrays.toString(Samples.letters(hall, word, 12)), Arrays.toString(longest));
        Check.same("its soundness", hall.isSound(), true);
    }

    private static void refused() {
        Tableauhall hall = new Tableauhall();
        Samples.put(hall, 1, 2);
        for (int most : new int[] {-1, 0, 201, Integer.MIN_VALUE, Integer.MAX_VALUE}) {
            Check.refuses("orbit by " + most, Check.BAD_ARGUMENT, () -> hall.orbit(0, most));
        }
        for (int word : new int[] {-1, 1, 8, Integer.MIN_VALUE, Integer.MAX_VALUE}) {
            Check.refuses("orbit of " + word, Check.NO_INDEX, () -> hall.orbit(word, 0));
        }
    }
}
