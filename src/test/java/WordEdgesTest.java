/** Promises 13 to 20 at their edges; the comment of a method is the sentence of the document that it tests. */
public final class WordEdgesTest {
    private static final int[] FAR = {Integer.MIN_VALUE, -(1 << 30), -12, -1, 12, 13, 1 << 28, 1 << 29, 1 << 30,
        Integer.MAX_VALUE};

    public static void main(String[] args) {
        emptyWord();
        eightWords();
        wordsThatAreNotThere();
        leastAndGreatestLetter();
        lettersThatAreNotThere();
        twelveLetters();
        refusedBeforeFull();
        letterBehindTheLast();
        rowBehindTheLast();
        rowOutOfRange();
        cellsOfTheWidestAndTheHighest();
        cellsThatAreNotThere();
        placeOfTheFirstGreaterOne();
        emptyWordsAreAlike();
        alikeByTheFirstTableauAlone();
        countsOfTheEmptyAndTheFull();
        equalLettersAreNotGreater();
        placesCountedFromOne();
        noSuchCount();
        Check.end("WordEdgesTest");
    }

    private static Tableauhall hallOf(int... letters) {
        Tableauhall hall = new Tableauhall();
        Samples.put(hall, letters);
        return hall;
    }

    /** "Begins an empty word". */
    private static void emptyWord() {
        Tableauhall hall = hallOf();
        Check.refuses("letter of an empty word", Check.NO_ELEMENT, () -> hall.letterAt(0, 0));
        Check.refuses("inserted of an empty word", Check.NO_ELEMENT, () -> hall.inserted(0, 0, 0));
        Check.refuses("recorded of an empty word", Check.NO_ELEMENT, () -> hall.recorded(0, 0, 0));
        for (int row = 0; row <= 11; row++) {
            Check.same("row of an empty word", hall.rowOf(0, row), 0);
        }
        Check.same("first letter of it", hall.append(0, 7), 1);
        Check.same("a word behind it is empty", hall.word(), 1);
        Check.same("row of the word behind it", hall.rowOf(1, 0), 0);
        Check.refuses("letter of the word behind it", Check.NO_ELEMENT, () -> hall.letterAt(1, 0));
        Check.same("row of the word ahead of it", hall.rowOf(0, 0), 1);
    }

    /** "At most 8 words are numbered from 0"; "IllegalStateException if there are 8 words". */
    private static void eightWords() {
        Tableauhall hall = new Tableauhall();
        for (int number = 0; number < 8; number++) {
            Check.same("word of number " + number, hall.word(), number);
            Check.same("its first letter", hall.append(number, number + 1), 1);
        }
        Check.refuses("the 9th word", Check.BAD_STATE, hall::word);
        Check.refuses("the 9th word, once more", Check.BAD_STATE, hall::word);
        Check.refuses("a letter for the 9th word", Check.NO_INDEX, () -> hall.append(8, 1));
        for (int number = 0; number < 8; number++) {
            Check.same("letter of the word " + number, hall.letterAt(number, 0), number + 1);
        }
        Check.same("share of 8 words", hall.highestShare(), 0.125f);
        Check.same("shapes are counted by themselves", hall.shape(21), 0);
    }

    /** "IndexOutOfBoundsException if there is no such word", which comes ahead of all other exceptions. */
    private static void wordsThatAreNotThere() {
        for (int made : new int[] {0, 1, 7, 8}) {
            for (int word : new int[] {Integer.MIN_VALUE, -1, made, 9, 12, Integer.MAX_VALUE}) {
                Tableauhall hall = new Tableauhall();
                for (int number = 0; number < made; number++) {
                    Samples.put(hall, 2, 1);
                }
                for (int wrong : new int[] {Integer.MIN_VALUE, -1, 0, 1, 10, 12, Integer.MAX_VALUE}) {
                    refusedWord(hall, word, wrong);
                }
                for (char what : new char[] {'d', 'm', 'i', 'l', 'x', 0, Character.MAX_VALUE}) {
                    Check.refuses("count of " + word, Check.NO_INDEX, () -> hall.count(word, what));
                }
                Check.same("checksum behind them", hall.checksum() == 0, made == 0);
            }
        }
    }

    private static void refusedWord(Tableauhall hall, int word, int wrong) {
        String what = word + ", " + wrong;
        Check.refuses("append to " + what, Check.NO_INDEX, () -> hall.append(word, wrong));
        Check.refuses("letterAt of " + what, Check.NO_INDEX, () -> hall.letterAt(word, wrong));
        Check.refuses("rowOf of " + what, Check.NO_INDEX, () -> hall.rowOf(word, wrong));
        Check.refuses("inserted of " + what, Check.NO_INDEX, () -> hall.inserted(word, wrong, wrong));
        Check.refuses("recorded of " + what, Check.NO_INDEX, () -> hall.recorded(word, wrong, wrong));
        Check.refuses("areAlike of " + what, Check.NO_INDEX, () -> hall.areAlike(word, wrong));
        Check.refuses("areAlike, turned, of " + what, Check.NO_INDEX, () -> hall.areAlike(wrong, word));
        Check.refuses("areAlike of " + word + " and itself", Check.NO_INDEX, () -> hall.areAlike(word, word));
    }

    /** "the letter, 1 to 9". */
    private static void leastAndGreatestLetter() {
        Tableauhall hall = new Tableauhall();
        hall.word();
        for (int letter = 1; letter <= 9; letter++) {
            Check.same("append " + letter, hall.append(0, letter), letter);
            Check.same("letter " + letter, hall.letterAt(0, letter - 1), letter);
            Check.same("inserted " + letter, hall.inserted(0, 0, letter - 1), letter);
        }
    }

    /** Promise 14: "IllegalArgumentException if there is no such letter". */
    private static void lettersThatAreNotThere() {
        for (int letter : new int[] {Integer.MIN_VALUE, -9, -1, 0, 10, 11, '1', '9', 257, Integer.MAX_VALUE}) {
            Tableauhall hall = hallOf(4);
            Check.refuses("append " + letter, Check.BAD_ARGUMENT, () -> hall.append(0, letter));
            Check.refuses("letter behind it", Check.NO_ELEMENT, () -> hall.letterAt(0, 1));
            Check.same("row behind it", hall.rowOf(0, 0), 1);
            Check.same("the next letter", hall.append(0, 5), 2);
            Check.same("its number", hall.recorded(0, 0, 1), 2);
        }
    }

    /** "each with at most 12 letters"; "IllegalStateException if it has 12"; "Returns how many letters it has". */
    private static void twelveLetters() {
        Tableauhall hall = hallOf();
        hall.word();
        for (int length = 1; length <= 12; length++) {
            Check.same("append of number " + length, hall.append(0, 1 + length % 9), length);
        }
        for (int letter = 1; letter <= 9; letter++) {
            int tried = letter;
            Check.refuses("the 13th letter", Check.BAD_STATE, () -> hall.append(0, tried));
        }
        Check.same("the 12th letter", hall.letterAt(0, 11), 4);
        Check.refuses("letterAt 12", Check.NO_ELEMENT, () -> hall.letterAt(0, 12));
        Check.same("another word is not full", hall.append(1, 9), 1);
        Check.same("a walk makes no room", hall.down(0, 8), true);
        Check.refuses("the 13th letter behind a walk", Check.BAD_STATE, () -> hall.append(0, 1));
    }

    /** "If several exceptions apply, the one that is documented first is thrown", for promise 14. */
    private static void refusedBeforeFull() {
        Tableauhall hall = Samples.fullHall();
        for (int letter : new int[] {Integer.MIN_VALUE, -1, 0, 10, Integer.MAX_VALUE}) {
            Check.refuses("a full word's letter " + letter, Check.BAD_ARGUMENT, () -> hall.append(7, letter));
            Check.refuses("no word's letter " + letter, Check.NO_INDEX, () -> hall.append(8, letter));
        }
        Check.refuses("a full word's letter", Check.BAD_STATE, () -> hall.append(7, 1));
    }

    /** Promise 15: "NoSuchElementException if there is no such letter". */
    private static void letterBehindTheLast() {
        for (int length = 0; length <= 12; length++) {
            Tableauhall hall = new Tableauhall();
            int[] letters = new int[length];
            for (int index = 0; index < length; index++) {
                letters[index] = 9 - index % 9;
            }
            Samples.put(hall, letters);
            Samples.put(hall, 1, 1, 1, 1, 1, 1, 1, 1, 1, 1, 1, 1);
            for (int index = 0; index < length; index++) {
                Check.same("letter " + index, hall.letterAt(0, index), letters[index]);
            }
            int behind = length;
            Check.refuses("letter behind the last one", Check.NO_ELEMENT, () -> hall.letterAt(0, behind));
            for (int index : FAR) {
                Check.refuses("letter " + index, Check.NO_ELEMENT, () -> hall.letterAt(0, index));
            }
        }
    }

    /** Promise 16: "Returns the length, 0 behind the last row". */
    private static void rowBehindTheLast() {
        Tableauhall hall = hallOf(9, 8, 7, 6, 5, 4, 3, 2, 1);
        Samples.put(hall, 1, 2, 3, 4, 5, 6, 7, 8, 9, 9, 9, 9);
        Samples.put(hall, 3, 4, 1);
        Check.same("first of nine rows", hall.rowOf(0, 0), 1);
        Check.same("last of nine rows", hall.rowOf(0, 8), 1);
        Check.same("behind nine rows", hall.rowOf(0, 9), 0);
        Check.same("the only row", hall.rowOf(1, 0), 12);
        Check.same("behind the only row", hall.rowOf(1, 1), 0);
        Check.same("first of two rows", hall.rowOf(2, 0), 2);
        Check.same("last of two rows", hall.rowOf(2, 1), 1);
        Check.same("behind two rows", hall.rowOf(2, 2), 0);
        for (int word = 0; word < 3; word++) {
            Check.same("row 10", hall.rowOf(word, 10), 0);
            Check.same("row 11", hall.rowOf(word, 11), 0);
        }
    }

    /** Promise 16: "IllegalArgumentException if it is out of range", that is 0 to 11. */
    private static void rowOutOfRange() {
        Tableauhall hall = hallOf(9, 8, 7, 6, 5, 4, 3, 2, 1);
        hall.word();
        for (int row : FAR) {
            Check.refuses("row " + row, Check.BAD_ARGUMENT, () -> hall.rowOf(0, row));
            Check.refuses("row " + row + " of an empty word", Check.BAD_ARGUMENT, () -> hall.rowOf(1, row));
        }
    }

    /** The first and the last cell of 12 columns and of 9 rows. */
    private static void cellsOfTheWidestAndTheHighest() {
        Tableauhall hall = hallOf(1, 1, 1, 1, 2, 2, 2, 2, 3, 3, 3, 9);
        Samples.put(hall, 9, 8, 7, 6, 5, 4, 3, 2, 1);
        Check.same("first cell of 12", hall.inserted(0, 0, 0), 1);
        Check.same("last cell of 12", hall.inserted(0, 0, 11), 9);
        Check.same("first number of 12", hall.recorded(0, 0, 0), 1);
        Check.same("last number of 12", hall.recorded(0, 0, 11), 12);
        Check.same("first cell of nine rows", hall.inserted(1, 0, 0), 1);
        Check.same("last cell of nine rows", hall.inserted(1, 8, 0), 9);
        Check.same("first number of nine rows", hall.recorded(1, 0, 0), 1);
        Check.same("last number of nine rows", hall.recorded(1, 8, 0), 9);
    }

    /** Promises 17 and 18: "NoSuchElementException if it has no such cell", not that of another row either. */
    private static void cellsThatAreNotThere() {
        Tableauhall hall = hallOf(3, 4, 5, 1, 2, 1);
        Samples.put(hall, 1, 1, 1, 1, 1, 1, 1, 1, 1, 1, 1, 1);
        Samples.put(hall, 9, 8, 7, 6, 5, 4, 3, 2, 1);
        int[] lengths = {3, 2, 1};
        for (int row = 0; row < 3; row++) {
            Check.same("row " + row, hall.rowOf(0, row), lengths[row]);
            noCell(hall, 0, row, lengths[row]);
            noCell(hall, 0, row, -1);
            noCell(hall, 0, row, -12);
            noCell(hall, 0, row, 12);
        }
        noCell(hall, 0, 3, 0);
        noCell(hall, 0, 1, -11);
        noCell(hall, 1, 0, 12);
        noCell(hall, 1, 1, 0);
        noCell(hall, 1, 1, -1);
        noCell(hall, 2, 9, 0);
        noCell(hall, 2, 0, 1);
        noCell(hall, 2, 8, 1);
        for (int far : FAR) {
            for (int word = 0; word < 3; word++) {
                noCell(hall, word, far, 0);
                noCell(hall, word, 0, far);
                noCell(hall, word, far, far);
            }
        }
    }

    private static void noCell(Tableauhall hall, int word, int row, int column) {
        String what = " of " + word + " at " + row + ", " + column;
        Check.refuses("inserted" + what, Check.NO_ELEMENT, () -> hall.inserted(word, row, column));
        Check.refuses("recorded" + what, Check.NO_ELEMENT, () -> hall.recorded(word, row, column));
    }

    /** "there it takes the place of the first one that is greater .. without a greater one, it stands at the end". */
    private static void placeOfTheFirstGreaterOne() {
        Tableauhall hall = hallOf(2, 2, 3);
        Check.same("an equal one stands at the end", hall.rowOf(0, 0), 3);
        hall.append(0, 2);
        Check.same("3 leaves its place to 2", hall.inserted(0, 0, 2), 2);
        Check.same("3 comes into the row 1", hall.inserted(0, 1, 0), 3);
        Check.same("by the letter of number 4", hall.recorded(0, 1, 0), 4);
        hall.append(0, 1);
        Check.same("the first 2 leaves its place to 1", hall.inserted(0, 0, 0), 1);
        Check.same("the others stay", hall.inserted(0, 0, 1), 2);
        Check.same("2 takes the place of 3", hall.inserted(0, 1, 0), 2);
        Check.same("3 comes into the row 2", hall.inserted(0, 2, 0), 3);
        Check.same("by the letter of number 5", hall.recorded(0, 2, 0), 5);
    }

    /** "Two words are alike if their first tableaux are", empty ones too, and a word and itself. */
    private static void emptyWordsAreAlike() {
        Tableauhall hall = hallOf();
        hall.word();
        Samples.put(hall, 1);
        Check.same("two empty words", hall.areAlike(0, 1), true);
        Check.same("an empty word and itself", hall.areAlike(0, 0), true);
        Check.same("an empty word and 1", hall.areAlike(0, 2), false);
        Check.same("1 and an empty word", hall.areAlike(2, 0), false);
        Check.same("1 and itself", hall.areAlike(2, 2), true);
        Tableauhall full = Samples.fullHall();
        Check.same("the last of 8 words and itself", full.areAlike(7, 7), true);
        Check.same("the last of 8 words and the first one", full.areAlike(7, 0), false);
    }

    private static void alikeByTheFirstTableauAlone() {
        Tableauhall hall = hallOf(2, 1, 3);
        Samples.put(hall, 2, 3, 1);
        Samples.put(hall, 1, 3, 2);
        Samples.put(hall, 1, 2, 3);
        Samples.put(hall, 2, 1, 4);
        Samples.put(hall, 2, 1);
        Samples.put(hall, 1, 1, 1, 1, 1, 1, 1, 1, 1, 1, 1, 8);
        Samples.put(hall, 1, 1, 1, 1, 1, 1, 1, 1, 1, 1, 1, 9);
        Check.same("another second tableau", hall.areAlike(0, 1), true);
        Check.same("the same second tableau", hall.areAlike(0, 4), false);
        Check.same("the same letters and row lengths", hall.areAlike(0, 2), false);
        Check.same("the same letters in other rows", hall.areAlike(0, 3), false);
        Check.same("one letter less", hall.areAlike(0, 5), false);
        Check.same("one letter more", hall.areAlike(5, 0), false);
        Check.same("the 12th letter is another one", hall.areAlike(6, 7), false);
        hall.up(7, 8);
        Check.same("it is the same one behind a walk", hall.areAlike(6, 7), true);
    }

    private static void counts(Tableauhall hall, int word, int[] due) {
        char[] whats = {'d', 'm', 'i', 'l'};
        for (int index = 0; index < whats.length; index++) {
            Check.same("count '" + whats[index] + "' of word " + word, hall.count(word, whats[index]), due[index]);
        }
    }

    private static void countsOfTheEmptyAndTheFull() {
        Tableauhall hall = hallOf();
        Samples.put(hall, 9);
        Samples.put(hall, 9, 8, 7, 6, 5, 4, 3, 2, 1);
        Samples.put(hall, 9, 9, 9, 9, 9, 9, 1, 1, 1, 1, 1, 1);
        Samples.put(hall, 2, 1, 2, 1, 2, 1, 2, 1, 2, 1, 2, 1);
        Samples.put(hall, 1, 2, 3, 4, 5, 6, 7, 8, 9, 9, 9, 9);
        Samples.put(hall, 2, 2, 2, 2, 2, 2, 2, 2, 2, 2, 2, 1);
        Samples.put(hall, 9, 1, 1, 1, 1, 1, 1, 1, 1, 1, 1, 1);
        counts(hall, 0, new int[] {0, 0, 0, 0});
        counts(hall, 1, new int[] {0, 0, 0, 1});
        counts(hall, 2, new int[] {8, 36, 36, 1});
        counts(hall, 3, new int[] {1, 6, 36, 6});
        counts(hall, 4, new int[] {6, 36, 21, 6});
        counts(hall, 5, new int[] {0, 0, 0, 12});
        counts(hall, 6, new int[] {1, 11, 11, 11});
        counts(hall, 7, new int[] {1, 1, 11, 11});
    }

    /** 'd' and 'i' want "greater", 'l' "never less". */
    private static void equalLettersAreNotGreater() {
        Tableauhall hall = hallOf(5, 5);
        Samples.put(hall, 5, 5, 4, 4, 5, 5);
        counts(hall, 0, new int[] {0, 0, 0, 2});
        counts(hall, 1, new int[] {1, 2, 4, 4});
    }

    /** "the sum of the places of these, counted from 1"; "not side by side perhaps". */
    private static void placesCountedFromOne() {
        Tableauhall hall = hallOf(2, 1);
        Samples.put(hall, 1, 2, 1);
        Samples.put(hall, 2, 1, 2, 1);
        Samples.put(hall, 1, 9, 2, 8, 3, 7, 4);
        counts(hall, 0, new int[] {1, 1, 1, 1});
        counts(hall, 1, new int[] {1, 2, 1, 2});
        counts(hall, 2, new int[] {2, 4, 3, 2});
        counts(hall, 3, new int[] {3, 12, 9, 4});
    }

    /** Promise 20: "IllegalArgumentException if there is no such thing". */
    private static void noSuchCount() {
        Tableauhall hall = null;
        for (int what = 0; what <= Character.MAX_VALUE; what++) {
            if (what % 256 == 0) {
                hall = hallOf(2, 1);
                hall.word();
            }
            if ("dmil".indexOf(what) < 0) {
                char none = (char) what;
                int word = what % 2;
                Tableauhall asked = hall;
                Check.refuses("count " + what, Check.BAD_ARGUMENT, () -> asked.count(word, none));
            }
        }
    }
}
