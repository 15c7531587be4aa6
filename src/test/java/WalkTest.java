import java.util.ArrayList;
import java.util.Arrays;
import java.util.List;

/** Promises 21 to 23: down, up, isHighest. */
public final class WalkTest {
    public static void main(String[] args) {
        knownWalks();
        everyWalk();
        longWalks();
        refused();
        Check.end("WalkTest");
    }

    private static void knownWalks() {
        Tableauhall hall = new Tableauhall();
        int word = Samples.put(hall, 1, 1, 2, 2);
        Check.same("1122 goes down by 1", hall.down(word, 1), true);
        Check.same("it is 1222", Arrays.toString(Samples.letters(hall, word, 4)), "[1, 2, 2, 2]");
        Check.same("1222 goes up by 1", hall.up(word, 1), true);
        Check.same("1122 goes up by 1", hall.up(word, 1), true);
        Check.same("it is 1112", Arrays.toString(Samples.letters(hall, word, 4)), "[1, 1, 1, 2]");
        Check.same("1112 is not highest", hall.isHighest(word), false);
        Check.same("1112 goes up by 1", hall.up(word, 1), true);
        Check.same("1111 goes up by 1", hall.up(word, 1), false);
        Check.same("1111 is highest", hall.isHighest(word), true);
        int fitting = Samples.put(hall, 2, 1);
        Check.same("21 goes down by 1", hall.down(fitting, 1), false);
        Check.same("21 goes up by 1", hall.up(fitting, 1), false);
        Check.same("21 is highest", hall.isHighest(fitting), true);
        int last = Samples.put(hall, 8);
        Check.same("8 goes down by 8", hall.down(last, 8), true);
        Check.same("it is 9", hall.letterAt(last, 0), 9);
        Check.same("9 goes down by 8", hall.down(last, 8), false);
        Check.same("9 is not highest", hall.isHighest(last), false);
        Check.same("9 goes up by 8", hall.up(last, 8), true);
        Check.same("9 is 8", hall.letterAt(last, 0), 8);
        int none = hall.word();
        Check.same("none goes down by 1", hall.down(none, 1), false);
        Check.same("none goes up by 8", hall.up(none, 8), false);
        Check.same("none is highest", hall.isHighest(none), true);
    }

    private static void everyWalk() {
        for (int[] letters : Samples.words(260)) {
            boolean highest = true;
            for (int number = 1; number <= 8; number++) {
                checkWalk(letters, number, true);
                checkWalk(letters, number, false);
                highest &= walked(letters, number, false) == null;
            }
            Tableauhall hall = new Tableauhall();
            Samples.put(hall, letters);
            Check.same("isHighest " + Arrays.toString(letters), hall.isHighest(0), highest);
        }
    }

    private static void checkWalk(int[] letters, int number, boolean down) {
        Tableauhall hall = new Tableauhall();
        int word = Samples.put(hall, letters);
        int[] due = walked(letters, number, down);
        String what = Arrays.toString(letters) + (down ? " down by " : " up by ") + number;
        Check.same(what, down ? hall.down(word, number) : hall.up(word, number), due != null);
        int[] now = due == null ? letters : due;
        Check.same(what, Arrays.toString(Samples.letters(hall, word, now.length)), Arrays.toString(now));
        List<List<Integer>> first = new ArrayList<>();
        List<List<Integer>> second = new ArrayList<>();
        for (int index = 0; index < now.length; index++) {
            WordTest.insert(first, second, now[index], index + 1);
        }
        WordTest.compare(hall, word, what, first, second);
        if (due != null) {
            Check.same(what + " and back", down ? hall.up(word, number) : hall.down(word, number), true);
            Check.same(what + " and back", Arrays.toString(Samples.letters(hall, word, now.length)),
                Arrays.toString(letters));
        }
    }

    /** Leaves out neighbours that fit till there are none; null if the word can't go. */
    private static int[] walked(int[] letters, int number, boolean down) {
        List<Integer> free = new ArrayList<>();
        for (int index = 0; index < letters.length; index++) {
            if (letters[index] == number || letters[index] == number + 1) {
                free.add(index);
            }
        }
        for (int at = 0; at + 1 < free.size(); at++) {
            if (letters[free.get(at)] == number + 1 && letters[free.get(at + 1)] == number) {
                free.remove(at + 1);
                free.remove(at);
                at = -1;
            }
        }
        int[] now = letters.clone();
        for (int at = 0; at < free.size(); at++) {
            int index = down ? free.get(free.size() - 1 - at) : free.get(at);
            if (letters[index] == (down ? number : number + 1)) {
                now[index] = down ? number + 1 : number;
                return now;
            }
        }
        return null;
    }

    /** Going up as long as it can ends with a highest word, whose first tableau has its row's number in each row. */
    private static void longWalks() {
        for (int[] letters : Samples.words(40)) {
            Tableauhall hall = new Tableauhall();
            int word = Samples.put(hall, letters);
            for (int round = 0; round < 30 && !hall.isHighest(word); round++) {
                for (int number = 1; number <= 8; number += hall.up(word, number) ? 0 : 1) {
                    Check.same("isSound on the way", hall.isSound(), true);
                }
            }
            Check.same("isHighest at the end", hall.isHighest(word), true);
            for (int row = 0; row < 9; row++) {
                for (int column = 0; column < hall.rowOf(word, row); column++) {
                    Check.same("inserted at the end", hall.inserted(word, row, column), row + 1);
                }
            }
        }
    }

    private static void refused() {
        Tableauhall hall = new Tableauhall();
        Samples.put(hall, 1, 2);
        for (int number : new int[] {-1, 0, 9, Integer.MIN_VALUE, Integer.MAX_VALUE}) {
            Check.refuses("down by " + number, Check.BAD_ARGUMENT, () -> hall.down(0, number));
            Check.refuses("up by " + number, Check.BAD_ARGUMENT, () -> hall.up(0, number));
        }
        for (int word : new int[] {-1, 1, 8, Integer.MIN_VALUE, Integer.MAX_VALUE}) {
            Check.refuses("down of " + word, Check.NO_INDEX, () -> hall.down(word, 0));
            Check.refuses("up of " + word, Check.NO_INDEX, () -> hall.up(word, 0));
            Check.refuses("isHighest of " + word, Check.NO_INDEX, () -> hall.isHighest(word));
        }
        Check.same("the word is as it was", Arrays.toString(Samples.letters(hall, 0, 2)), "[1, 2]");
    }
}
