import java.util.Arrays;

/** Promises 21 to 24 at their edges; the comment of a method is the sentence of the document that it tests. */
public final class WalkEdgesTest {
    public static void main(String[] args) {
        emptyWord();
        leastAndGreatestNumber();
        numbersOutOfRange();
        wordsThatAreNotThere();
        wordThatCannotGo();
        fullWordAllTheWay();
        lastAndFirstOfTheLetters();
        bracketsThatFit();
        fullWordOfFittingBrackets();
        latestOpenBracket();
        tableauxBehindAWalk();
        highestByNoNumber();
        orbitOfNone();
        orbitOfRowsAndColumns();
        orbitByOneAndByTwoHundred();
        orbitByOneTooFew();
        orbitChangesNothing();
        orbitOutOfRange();
        Check.end("WalkEdgesTest");
    }

    private static Tableauhall hallOf(int... letters) {
        Tableauhall hall = new Tableauhall();
        Samples.put(hall, letters);
        return hall;
    }

    private static void letters(Tableauhall hall, int... due) {
        Check.same("letters", Arrays.toString(Samples.letters(hall, 0, due.length)), Arrays.toString(due));
        Check.refuses("behind the letters", Check.NO_ELEMENT, () -> hall.letterAt(0, due.length));
    }

    /** "Returns whether it can": an empty word can't, and is highest. */
    private static void emptyWord() {
        Tableauhall hall = hallOf();
        for (int number = 1; number <= 8; number++) {
            Check.same("none goes down", hall.down(0, number), false);
            Check.same("none goes up", hall.up(0, number), false);
        }
        Check.same("none is highest", hall.isHighest(0), true);
        letters(hall);
    }

    /** "For a number i from 1 to 8, the letters i .. are ) and the letters i + 1 are (". */
    private static void leastAndGreatestNumber() {
        for (int number = 1; number <= 8; number++) {
            Tableauhall hall = hallOf(number);
            for (int other = 1; other <= 8; other++) {
                if (other != number) {
                    Check.same(number + " goes down by " + other, hall.down(0, other), false);
                }
                if (other != number - 1) {
                    Check.same(number + " goes up by " + other, hall.up(0, other), false);
                }
            }
            Check.same(number + " goes down", hall.down(0, number), true);
            letters(hall, number + 1);
            Check.same(number + " can't go down once more", hall.down(0, number), false);
            Check.same(number + 1 + " goes up", hall.up(0, number), true);
            letters(hall, number);
            Check.same(number + " can't go up once more", hall.up(0, number), false);
            letters(hall, number);
        }
    }

    /** "IllegalArgumentException if it is out of range", with letters that would be there for it. */
    private static void numbersOutOfRange() {
        int[][] words = {{}, {1}, {9}, {9, 9, 9}, {1, 1, 2, 9}, {9, 8, 7, 6, 5, 4, 3, 2, 1, 1, 9, 9}};
        for (int[] word : words) {
            for (int number : new int[] {Integer.MIN_VALUE, -8, -1, 0, 9, 10, Integer.MAX_VALUE}) {
                Tableauhall hall = hallOf(word);
                Check.refuses("down by " + number, Check.BAD_ARGUMENT, () -> hall.down(0, number));
                Check.refuses("up by " + number, Check.BAD_ARGUMENT, () -> hall.up(0, number));
                letters(hall, word);
            }
        }
    }

    /** "IndexOutOfBoundsException if there is no such word", ahead of a number that is out of range. */
    private static void wordsThatAreNotThere() {
        for (int made : new int[] {0, 1, 8}) {
            Tableauhall hall = new Tableauhall();
            for (int number = 0; number < made; number++) {
                Samples.put(hall, 1, 2);
            }
            for (int word : new int[] {Integer.MIN_VALUE, -1, made, 9, Integer.MAX_VALUE}) {
                Check.refuses("isHighest of " + word, Check.NO_INDEX, () -> hall.isHighest(word));
                for (int wrong : new int[] {Integer.MIN_VALUE, -1, 0, 1, 9, 201, Integer.MAX_VALUE}) {
                    Check.refuses("down of " + word, Check.NO_INDEX, () -> hall.down(word, wrong));
                    Check.refuses("up of " + word, Check.NO_INDEX, () -> hall.up(word, wrong));
                    Check.refuses("orbit of " + word, Check.NO_INDEX, () -> hall.orbit(word, wrong));
                }
            }
            if (made > 0) {
                Check.same("the last word goes down", hall.down(made - 1, 1), true);
                Check.same("the last word goes up", hall.up(made - 1, 1), true);
            }
        }
    }

    /** "Returns whether it can; the word is another one then": if it can't, it is as it was. */
    private static void wordThatCannotGo() {
        int[] word = {2, 1, 4, 4, 3, 3, 6, 5};
        for (int number : new int[] {1, 3, 5, 7, 8}) {
            Tableauhall hall = hallOf(word);
            String before = Portrait.of(() -> hallOf(word));
            Check.same("down by " + number, hall.down(0, number), false);
            Check.same("up by " + number, hall.up(0, number), false);
            letters(hall, word);
            String after = Portrait.of(() -> {
                Tableauhall tried = hallOf(word);
                tried.down(0, number);
                tried.up(0, number);
                return tried;
            });
            Check.same("the word is as it was", after.equals(before), true);
        }
    }

    /** "Going down by i makes the last of these i an i + 1; going up by i makes the first of these i + 1 an i." */
    private static void fullWordAllTheWay() {
        for (int number = 1; number <= 8; number++) {
            int[] word = new int[12];
            Arrays.fill(word, number);
            Tableauhall hall = hallOf(word);
            for (int index = 11; index >= 0; index--) {
                Check.same("down by " + number, hall.down(0, number), true);
                word[index] = number + 1;
                letters(hall, word);
            }
            Check.same("down to the end", hall.down(0, number), false);
            letters(hall, word);
            for (int index = 0; index < 12; index++) {
                Check.same("up by " + number, hall.up(0, number), true);
                word[index] = number;
                letters(hall, word);
            }
            Check.same("up to the end", hall.up(0, number), false);
            letters(hall, word);
        }
    }

    private static void lastAndFirstOfTheLetters() {
        Tableauhall down = hallOf(1, 5, 1, 9, 1, 7);
        Check.same("down among others", down.down(0, 1), true);
        letters(down, 1, 5, 1, 9, 2, 7);
        Tableauhall up = hallOf(9, 2, 5, 2, 7, 2);
        Check.same("up among others", up.up(0, 1), true);
        letters(up, 9, 1, 5, 2, 7, 2);
        Tableauhall last = hallOf(8, 9);
        Check.same("down at the end of the letters", last.down(0, 8), true);
        letters(last, 9, 9);
    }

    /** "brackets that fit are left out .. a ( fitting a ) behind it". */
    private static void bracketsThatFit() {
        Tableauhall behind = hallOf(2, 1);
        Check.same("21 down", behind.down(0, 1), false);
        Check.same("21 up", behind.up(0, 1), false);
        Tableauhall ahead = hallOf(1, 2);
        Check.same("12 down", ahead.down(0, 1), true);
        letters(ahead, 2, 2);
        Tableauhall turned = hallOf(1, 2);
        Check.same("12 up", turned.up(0, 1), true);
        letters(turned, 1, 1);
        Tableauhall far = hallOf(9, 3, 5, 5, 1, 2, 7);
        Check.same("a pair far from each other, down", far.down(0, 2), false);
        Check.same("a pair far from each other, up", far.up(0, 2), false);
    }

    private static void fullWordOfFittingBrackets() {
        Tableauhall side = hallOf(2, 1, 2, 1, 2, 1, 2, 1, 2, 1, 2, 1);
        Check.same("side by side, down", side.down(0, 1), false);
        Check.same("side by side, up", side.up(0, 1), false);
        Check.same("side by side, highest", side.isHighest(0), true);
        Tableauhall nested = hallOf(9, 9, 9, 9, 9, 9, 8, 8, 8, 8, 8, 8);
        Check.same("within each other, down", nested.down(0, 8), false);
        Check.same("within each other, up", nested.up(0, 8), false);
        Tableauhall open = hallOf(9, 9, 9, 9, 9, 9, 9, 8, 8, 8, 8, 8);
        Check.same("two too many (, down", open.down(0, 8), false);
        Check.same("two too many (, up", open.up(0, 8), true);
        letters(open, 8, 9, 9, 9, 9, 9, 9, 8, 8, 8, 8, 8);
        Tableauhall closed = hallOf(9, 9, 9, 9, 9, 8, 8, 8, 8, 8, 8, 8);
        Check.same("two too many ), up", closed.up(0, 8), false);
        Check.same("two too many ), down", closed.down(0, 8), true);
        letters(closed, 9, 9, 9, 9, 9, 8, 8, 8, 8, 8, 8, 9);
    }

    /** "Each ) fits the latest ( ahead of it that fits no other one." */
    private static void latestOpenBracket() {
        Tableauhall open = hallOf(2, 2, 1);
        Check.same("221 up", open.up(0, 1), true);
        letters(open, 1, 2, 1);
        Tableauhall closed = hallOf(2, 1, 1);
        Check.same("211 down", closed.down(0, 1), true);
        letters(closed, 2, 1, 2);
        Tableauhall both = hallOf(1, 2, 1, 2);
        Check.same("1212 down", both.down(0, 1), true);
        letters(both, 2, 2, 1, 2);
        Tableauhall turned = hallOf(1, 2, 1, 2);
        Check.same("1212 up", turned.up(0, 1), true);
        letters(turned, 1, 2, 1, 1);
        Tableauhall twice = hallOf(2, 2, 2, 1, 1);
        Check.same("22211 up", twice.up(0, 1), true);
        letters(twice, 1, 2, 2, 1, 1);
    }

    /** "the word is another one then": its tableaux, counts and figures are those of its new letters. */
    private static void tableauxBehindAWalk() {
        int[] word = {1, 2, 1, 1, 3, 2, 2, 1, 9, 1, 8, 1};
        for (int number = 1; number <= 8; number++) {
            for (boolean isDown : new boolean[] {true, false}) {
                int by = number;
                Tableauhall hall = hallOf(word);
                boolean can = isDown ? hall.down(0, by) : hall.up(0, by);
                int[] now = Samples.letters(hall, 0, 12);
                Check.same("it is another one", Arrays.equals(now, word), !can);
                String due = Portrait.of(() -> hallOf(now));
                String got = Portrait.of(() -> {
                    Tableauhall walked = hallOf(word);
                    boolean goes = isDown ? walked.down(0, by) : walked.up(0, by);
                    Check.same("it goes as before", goes, can);
                    return walked;
                });
                Check.same("all of it is another one", got.equals(due), true);
            }
        }
    }

    /** Promise 23: "A word is highest if it can go up by no i", from 1 to 8. */
    private static void highestByNoNumber() {
        for (int number = 1; number <= 8; number++) {
            Tableauhall hall = new Tableauhall();
            hall.word();
            for (int letter = number; letter >= 1; letter--) {
                hall.append(0, letter);
            }
            Check.same("a column is highest", hall.isHighest(0), true);
            hall.append(0, number + 1);
            Check.same("it can go up by " + number + " alone", hall.isHighest(0), false);
            Check.same("and does", hall.up(0, number), true);
            Check.same("it can go up by one less then", hall.isHighest(0), number == 1);
        }
        Tableauhall full = hallOf(1, 1, 1, 1, 1, 1, 1, 1, 1, 1, 1, 1);
        Samples.put(full, 1, 1, 1, 1, 1, 1, 1, 1, 1, 1, 1, 2);
        Samples.put(full, 2, 1, 1, 1, 1, 1, 1, 1, 1, 1, 1, 1);
        Samples.put(full, 3, 2, 1, 9, 8, 7, 6, 5, 4, 3, 2, 1);
        Samples.put(full, 3, 2, 1, 9, 8, 7, 6, 5, 4, 3, 1, 2);
        Samples.put(full, 9);
        boolean[] due = {true, false, true, true, false, false};
        for (int word = 0; word < due.length; word++) {
            Check.same("isHighest of word " + word, full.isHighest(word), due[word]);
        }
    }

    private static void orbit(int due, int most, int... letters) {
        Tableauhall hall = hallOf(letters);
        Check.same("orbit of " + Arrays.toString(letters) + " by " + most, hall.orbit(0, most), due);
    }

    /** "An empty tableau is itself behind one promotion." */
    private static void orbitOfNone() {
        orbit(1, 1);
        orbit(1, 2);
        orbit(1, 200);
    }

    private static void orbitOfRowsAndColumns() {
        orbit(1, 1, 9);
        orbit(1, 200, 9);
        orbit(1, 1, 1, 1, 1, 1, 1, 1, 1, 1, 1, 1, 1, 1);
        orbit(1, 1, 9, 8, 7, 6, 5, 4, 3, 2, 1);
        orbit(2, 200, 2, 1, 2);
        orbit(2, 200, 2, 2, 1);
        orbit(11, 200, 1, 1, 1, 1, 1, 1, 2, 2, 2, 2, 2, 1);
    }

    /** "at most how many are done, 1 to 200". */
    private static void orbitByOneAndByTwoHundred() {
        int[] of198 = {1, 2, 2, 3, 4, 1, 3, 2, 2, 1, 1, 1};
        int[] of201 = {1, 3, 3, 5, 2, 4, 2, 1, 3, 2, 1, 1};
        int[] of202 = {2, 2, 3, 4, 1, 1, 3, 2, 2, 1, 1};
        Check.same("orbit of 198, reckoned anew", PromotionTest.slowOrbit(of198, 1000), 198);
        Check.same("orbit of 201, reckoned anew", PromotionTest.slowOrbit(of201, 1000), 201);
        Check.same("orbit of 202, reckoned anew", PromotionTest.slowOrbit(of202, 1000), 202);
        orbit(198, 200, of198);
        orbit(198, 199, of198);
        orbit(198, 198, of198);
        orbit(0, 197, of198);
        orbit(0, 1, of198);
        orbit(0, 200, of201);
        orbit(0, 199, of201);
        orbit(0, 1, of201);
        orbit(0, 200, of202);
    }

    /** "0 if it does not come back by these"; "for the first time". */
    private static void orbitByOneTooFew() {
        orbit(0, 1, 2, 1, 2);
        orbit(2, 2, 2, 1, 2);
        orbit(2, 3, 2, 1, 2);
        orbit(2, 4, 2, 1, 2);
        int[] of33 = {1, 2, 3, 1, 2, 3, 1, 2, 3};
        orbit(0, 32, of33);
        orbit(33, 33, of33);
        orbit(33, 34, of33);
        orbit(33, 66, of33);
        orbit(33, 200, of33);
    }

    /** The second tableau is asked, not changed, whether it comes back or not. */
    private static void orbitChangesNothing() {
        int[] word = {1, 3, 3, 5, 2, 4, 2, 1, 3, 2, 1, 1};
        String before = Portrait.of(() -> hallOf(word));
        for (int most : new int[] {1, 100, 200}) {
            String after = Portrait.of(() -> {
                Tableauhall asked = hallOf(word);
                asked.orbit(0, most);
                return asked;
            });
            Check.same("behind an orbit by " + most, after.equals(before), true);
        }
    }

    /** Promise 24: "IllegalArgumentException if it is out of range". */
    private static void orbitOutOfRange() {
        int[][] words = {{}, {1}, {2, 1, 2}, {1, 3, 3, 5, 2, 4, 2, 1, 3, 2, 1, 1}};
        for (int[] word : words) {
            Tableauhall hall = hallOf(word);
            for (int most : new int[] {Integer.MIN_VALUE, -200, -1, 0, 201, 202, Integer.MAX_VALUE}) {
                Check.refuses("orbit by " + most, Check.BAD_ARGUMENT, () -> hall.orbit(0, most));
            }
        }
    }
}
