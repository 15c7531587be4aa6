import java.util.ArrayList;
import java.util.Arrays;
import java.util.List;

/** Promises 13 to 20: word, append, letterAt, rowOf, inserted, recorded, areAlike, count. */
public final class WordTest {
    public static void main(String[] args) {
        knownWord();
        everyTableau();
        alikeWords();
        numbers();
        fullHall();
        refused();
        Check.end("WordTest");
    }

    private static void knownWord() {
        Tableauhall hall = new Tableauhall();
        int word = Samples.put(hall, 1, 3, 2, 2, 3, 1);
        int[][] first = {{1, 1, 2, 3}, {2}, {3}};
        int[][] second = {{1, 2, 4, 5}, {3}, {6}};
        for (int row = 0; row < 3; row++) {
            for (int column = 0; column < first[row].length; column++) {
                Check.same("inserted", hall.inserted(word, row, column), first[row][column]);
                Check.same("recorded", hall.recorded(word, row, column), second[row][column]);
            }
        }
        Check.same("count 'd'", hall.count(word, 'd'), 2);
        Check.same("count 'm'", hall.count(word, 'm'), 7);
        Check.same("count 'i'", hall.count(word, 'i'), 6);
        Check.same("count 'l'", hall.count(word, 'l'), 4);
    }

    /** All tableaux of many words, asked behind each letter. */
    private static void everyTableau() {
        for (int[] letters : Samples.words(300)) {
            Tableauhall hall = new Tableauhall();
            int word = hall.word();
            List<List<Integer>> first = new ArrayList<>();
            List<List<Integer>> second = new ArrayList<>();
            for (int index = 0; index < letters.length; index++) {
                Check.same("append", hall.append(word, letters[index]), index + 1);
                insert(first, second, letters[index], index + 1);
                Check.same("letterAt", hall.letterAt(word, index), letters[index]);
            }
            compare(hall, word, Arrays.toString(letters), first, second);
        }
    }

    static void insert(List<List<Integer>> first, List<List<Integer>> second, int letter, int number) {
        int coming = letter;
        for (int row = 0; ; row++) {
            if (row == first.size()) {
                first.add(new ArrayList<>());
                second.add(new ArrayList<>());
            }
            int place = 0;
            while (place < first.get(row).size() && first.get(row).get(place) <= coming) {
                place++;
            }
            if (place == first.get(row).size()) {
                first.get(row).add(coming);
                second.get(row).add(number);
                return;
            }
            coming = first.get(row).set(place, coming);
        }
    }

    static void compare(Tableauhall hall, int word, String what, List<List<Integer>> first,
            List<List<Integer>> second) {
        for (int row = 0; row < 12; row++) {
            int length = row < first.size() ? first.get(row).size() : 0;
            int at = row;
            Check.same("rowOf " + what, hall.rowOf(word, row), length);
            for (int column = 0; column < length; column++) {
                Check.same("inserted " + what, hall.inserted(word, row, column), first.get(row).get(column));
                Check.same("recorded " + what, hall.recorded(word, row, column), second.get(row).get(column));
            }
            Check.refuses("inserted " + what, Check.NO_ELEMENT, () -> hall.inserted(word, at, length));
            Check.refuses("recorded " + what, Check.NO_ELEMENT, () -> hall.recorded(word, at, length));
        }
    }

    private static void alikeWords() {
        checkAlike(true, new int[] {}, new int[] {});
        checkAlike(true, new int[] {1, 3, 2}, new int[] {3, 1, 2});
        checkAlike(true, new int[] {2, 1, 3}, new int[] {2, 3, 1});
        checkAlike(false, new int[] {3, 1, 2}, new int[] {2, 1, 3});
        checkAlike(false, new int[] {1}, new int[] {});
        checkAlike(false, new int[] {1}, new int[] {2});
        checkAlike(false, new int[] {1, 2}, new int[] {2, 1});
        checkAlike(false, new int[] {1, 2}, new int[] {1, 2, 3});
        List<int[]> words = Samples.words(200);
        for (int[] letters : words) {
            int[] rows = rowsFromBelow(letters);
            checkAlike(true, letters, rows);
            for (int index = 0; index + 1 < letters.length; index++) {
                int[] other = letters.clone();
                other[index] = letters[index + 1];
                other[index + 1] = letters[index];
                checkAlike(Arrays.equals(rows, rowsFromBelow(other)), letters, other);
            }
        }
    }

    /** The rows of the first tableau from the last to the first are a word with the same tableau. */
    private static int[] rowsFromBelow(int[] letters) {
        List<List<Integer>> first = new ArrayList<>();
        List<List<Integer>> second = new ArrayList<>();
        for (int letter : letters) {
            insert(first, second, letter, 1);
        }
        int[] word = new int[letters.length];
        int index = 0;
        for (int row = first.size() - 1; row >= 0; row--) {
            for (int letter : first.get(row)) {
                word[index++] = letter;
            }
        }
        return word;
    }

    private static void checkAlike(boolean due, int[] one, int[] other) {
        Tableauhall hall = new Tableauhall();
        Samples.put(hall, one);
        Samples.put(hall, other);
        String what = Arrays.toString(one) + " like " + Arrays.toString(other);
        Check.same(what, hall.areAlike(0, 1), due);
        Check.same(what + ", turned", hall.areAlike(1, 0), due);
        Check.same(what + ", itself", hall.areAlike(1, 1), true);
    }

    private static void numbers() {
        for (int[] letters : Samples.words(300)) {
            Tableauhall hall = new Tableauhall();
            int word = Samples.put(hall, letters);
            int descents = 0;
            int places = 0;
            int pairs = 0;
            for (int index = 0; index < letters.length; index++) {
                for (int behind = index + 1; behind < letters.length; behind++) {
                    int greater = letters[index] > letters[behind] ? 1 : 0;
                    pairs += greater;
                    descents += behind == index + 1 ? greater : 0;
                    places += behind == index + 1 ? greater * behind : 0;
                }
            }
            String what = " of " + Arrays.toString(letters);
            Check.same("count 'd'" + what, hall.count(word, 'd'), descents);
            Check.same("count 'm'" + what, hall.count(word, 'm'), places);
            Check.same("count 'i'" + what, hall.count(word, 'i'), pairs);
            Check.same("count 'l'" + what, hall.count(word, 'l'), longest(letters));
        }
    }

    /** Tries all choices of letters. */
    private static int longest(int[] letters) {
        int most = 0;
        for (int chosen = 0; chosen < 1 << letters.length; chosen++) {
            int last = 0;
            for (int index = 0; index < letters.length && last < 10; index++) {
                if ((chosen >> index & 1) == 1) {
                    last = letters[index] >= last ? letters[index] : 10;
                }
            }
            most = last < 10 ? Math.max(most, Integer.bitCount(chosen)) : most;
        }
        return most;
    }

    private static void fullHall() {
        Tableauhall hall = new Tableauhall();
        for (int number = 0; number < 8; number++) {
            Check.same("word", hall.word(), number);
        }
        Check.refuses("the 9th word", Check.BAD_STATE, hall::word);
        Check.refuses("a letter for it", Check.NO_INDEX, () -> hall.append(8, 1));
        for (int length = 1; length <= 12; length++) {
            Check.same("append", hall.append(7, 9), length);
        }
        Check.refuses("the 13th letter", Check.BAD_STATE, () -> hall.append(7, 1));
        Check.refuses("a wrong 13th letter", Check.BAD_ARGUMENT, () -> hall.append(7, 10));
        Check.same("the last letter", hall.letterAt(7, 11), 9);
        Check.same("the whole row", hall.rowOf(7, 0), 12);
        Check.same("its last letter", hall.inserted(7, 0, 11), 9);
        Check.same("its last number", hall.recorded(7, 0, 11), 12);
        Check.refuses("letterAt(7, 12)", Check.NO_ELEMENT, () -> hall.letterAt(7, 12));
        Check.same("another word stays empty", hall.rowOf(6, 0), 0);
    }

    private static void refused() {
        Tableauhall hall = new Tableauhall();
        Samples.put(hall, 2, 1);
        int[] numbers = {-1, 2, 8, 12, Integer.MIN_VALUE, Integer.MAX_VALUE};
        for (int number : numbers) {
            refusedWord(hall, number);
            Check.refuses("letterAt " + number, Check.NO_ELEMENT, () -> hall.letterAt(0, number));
            Check.refuses("inserted in row " + number, Check.NO_ELEMENT, () -> hall.inserted(0, number, 0));
            Check.refuses("inserted in column " + number, Check.NO_ELEMENT, () -> hall.inserted(0, 0, number));
            Check.refuses("recorded in row " + number, Check.NO_ELEMENT, () -> hall.recorded(0, number, 0));
            Check.refuses("recorded in column " + number, Check.NO_ELEMENT, () -> hall.recorded(0, 0, number));
        }
        for (int number : new int[] {-1, 12, Integer.MIN_VALUE, Integer.MAX_VALUE}) {
            Check.refuses("rowOf " + number, Check.BAD_ARGUMENT, () -> hall.rowOf(0, number));
        }
        for (int letter : new int[] {-1, 0, 10, Integer.MIN_VALUE, Integer.MAX_VALUE}) {
            Check.refuses("append " + letter, Check.BAD_ARGUMENT, () -> hall.append(0, letter));
        }
        for (char what : new char[] {'x', 'D', ' ', 0}) {
            Check.refuses("count " + (int) what, Check.BAD_ARGUMENT, () -> hall.count(0, what));
        }
        Check.same("the word is as it was", Arrays.toString(Samples.letters(hall, 0, 2)), "[2, 1]");
        Check.same("rowOf 11", hall.rowOf(0, 11), 0);
    }

    private static void refusedWord(Tableauhall hall, int number) {
        Check.refuses("append to " + number, Check.NO_INDEX, () -> hall.append(number, 0));
        Check.refuses("letterAt of " + number, Check.NO_INDEX, () -> hall.letterAt(number, -1));
        Check.refuses("rowOf of " + number, Check.NO_INDEX, () -> hall.rowOf(number, 12));
        Check.refuses("inserted of " + number, Check.NO_INDEX, () -> hall.inserted(number, -1, 0));
        Check.refuses("recorded of " + number, Check.NO_INDEX, () -> hall.recorded(number, -1, 0));
        Check.refuses("areAlike of " + number, Check.NO_INDEX, () -> hall.areAlike(number, 0));
        Check.refuses("areAlike with " + number, Check.NO_INDEX, () -> hall.areAlike(0, number));
        Check.refuses("count of " + number, Check.NO_INDEX, () -> hall.count(number, 'x'));
    }
}
