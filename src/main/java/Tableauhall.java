import java.util.Arrays;
import java.util.NoSuchElementException;

/** A workshop of shapes and tableaux, as the numbered promises of DOC.md say. */
public final class Tableauhall {
    private static final int MOST_SHAPES = 12;
    private static final int MOST_CELLS = 12;
    private static final int MOST_PARTS = 8;
    private static final int GREATEST_PART = 8;
    private static final int GREATEST_INDEX = 11;
    private static final int MOST_WORDS = 8;
    private static final int MOST_LETTERS = 12;
    private static final int GREATEST_LETTER = 9;
    private static final int GREATEST_WALK = 8;
    private static final int MOST_PROMOTIONS = 200;
    private static final int MOST_DIGITS = 10;
    private static final int BEAD_PLACES = MOST_PARTS + GREATEST_PART;
    private static final int NOWHERE = -1;

    private final Shape[] shapes;
    private int shapeCount;
    private final Word[] words;
    private int wordCount;
    private final Growth growth;
    private final Writing writing;
    private final Grid firstCopy;
    private final Grid secondCopy;

    public Tableauhall() {
        shapes = new Shape[MOST_SHAPES];
        words = new Word[MOST_WORDS];
        growth = new Growth();
        writing = new Writing();
        firstCopy = new Grid();
        secondCopy = new Grid();
    }

    // Shapes.

    public int shape(int parts) throws IllegalArgumentException, IllegalStateException {
        if (!tellsShape(parts)) {
            throw new IllegalArgumentException("these are not the parts of a shape");
        }
        if (shapeCount >= MOST_SHAPES || shapeCount >= shapes.length) {
            throw new IllegalStateException("there are 12 shapes");
        }
        shapes[shapeCount] = new Shape(parts);
        shapeCount++;
        return shapeCount - 1;
    }

    public int size(int shape) throws IndexOutOfBoundsException {
        return shapeNumbered(shape).cells();
    }

    public int part(int shape, int index) throws IndexOutOfBoundsException, IllegalArgumentException {
        Shape asked = shapeNumbered(shape);
        requireWithin(index, 0, GREATEST_INDEX);
        return asked.partAt(index);
    }

    public int column(int shape, int index) throws IndexOutOfBoundsException, IllegalArgumentException {
        Shape asked = shapeNumbered(shape);
        requireWithin(index, 0, GREATEST_INDEX);
        return asked.columnAt(index);
    }

    public int hook(int shape, int row, int column) throws IndexOutOfBoundsException, NoSuchElementException {
        Shape asked = shapeNumbered(shape);
        if (!asked.hasCell(row, column)) {
            throw new NoSuchElementException("the shape has no such cell");
        }
        return asked.hookAt(row, column);
    }

    public long tableaux(int shape) throws IndexOutOfBoundsException {
        return tableauxByHooks(shapeNumbered(shape));
    }

    public long tableauxAnew(int shape) throws IndexOutOfBoundsException {
        return growth.standardTableaux(shapeNumbered(shape));
    }

    public int fillings(int shape, int other) throws IndexOutOfBoundsException, IllegalArgumentException {
        Shape filled = shapeNumbered(shape);
        Shape filler = shapeNumbered(other);
        requireAsManyCells(filled, filler);
        return growth.fillingsBy(filled, filler);
    }

    public int character(int shape, int other) throws IndexOutOfBoundsException, IllegalArgumentException {
        Shape asked = shapeNumbered(shape);
        Shape ribbons = shapeNumbered(other);
        requireAsManyCells(asked, ribbons);
        return characterOf(asked.beads(), ribbons, 0);
    }

    public int core(int shape, int cells) throws IndexOutOfBoundsException, IllegalArgumentException {
        Shape asked = shapeNumbered(shape);
        requireWithin(cells, 1, MOST_CELLS);
        return cellsOfCore(asked, cells);
    }

    public int coefficient(int shape, int first, int second) throws IndexOutOfBoundsException {
        Shape outer = shapeNumbered(shape);
        Shape inner = shapeNumbered(first);
        Shape numbers = shapeNumbered(second);
        if (!outer.holds(inner) || outer.cells() != inner.cells() + numbers.cells()) {
            return 0;
        }
        writing.begin(outer, inner, numbers);
        return waysToWrite(writing, 0);
    }

    // Words.

    public int word() throws IllegalStateException {
        if (wordCount >= MOST_WORDS || wordCount >= words.length) {
            throw new IllegalStateException("there are 8 words");
        }
        words[wordCount] = new Word();
        wordCount++;
        return wordCount - 1;
    }

    public int append(int word, int letter)
            throws IndexOutOfBoundsException, IllegalArgumentException, IllegalStateException {
        Word asked = wordNumbered(word);
        requireWithin(letter, 1, GREATEST_LETTER);
        if (asked.length() >= MOST_LETTERS) {
            throw new IllegalStateException("the word has 12 letters");
        }
        asked.add(letter);
        return asked.length();
    }

    public int letterAt(int word, int index) throws IndexOutOfBoundsException, NoSuchElementException {
        return existing(wordNumbered(word).letter(index));
    }

    public int rowOf(int word, int row) throws IndexOutOfBoundsException, IllegalArgumentException {
        Word asked = wordNumbered(word);
        requireWithin(row, 0, GREATEST_INDEX);
        return asked.first().rowLength(row);
    }

    public int inserted(int word, int row, int column) throws IndexOutOfBoundsException, NoSuchElementException {
        return existing(wordNumbered(word).first().at(row, column));
    }

    public int recorded(int word, int row, int column) throws IndexOutOfBoundsException, NoSuchElementException {
        return existing(wordNumbered(word).second().at(row, column));
    }

    public boolean areAlike(int word, int other) throws IndexOutOfBoundsException {
        Word one = wordNumbered(word);
        Word another = wordNumbered(other);
        return one.first().isSameAs(another.first());
    }

    public int count(int word, char what) throws IndexOutOfBoundsException, IllegalArgumentException {
        Word asked = wordNumbered(word);
        if (what == 'd') {
            return asked.descents();
        }
        if (what == 'm') {
            return asked.sumOfDescents();
        }
        if (what == 'i') {
            return asked.inversions();
        }
        if (what == 'l') {
            return asked.longestRow();
        }
        throw new IllegalArgumentException("a word has no such number");
    }

    public boolean down(int word, int number) throws IndexOutOfBoundsException, IllegalArgumentException {
        Word asked = wordNumbered(word);
        requireWithin(number, 1, GREATEST_WALK);
        int index = asked.lastFreeLesser(number);
        if (index == NOWHERE) {
            return false;
        }
        asked.change(index, number + 1);
        return true;
    }

    public boolean up(int word, int number) throws IndexOutOfBoundsException, IllegalArgumentException {
        Word asked = wordNumbered(word);
        requireWithin(number, 1, GREATEST_WALK);
        int index = asked.firstFreeGreater(number);
        if (index == NOWHERE) {
            return false;
        }
        asked.change(index, number);
        return true;
    }

    public boolean isHighest(int word) throws IndexOutOfBoundsException {
        return wordNumbered(word).canGoUpByNone();
    }

    public int orbit(int word, int most) throws IndexOutOfBoundsException, IllegalArgumentException {
        Word asked = wordNumbered(word);
        requireWithin(most, 1, MOST_PROMOTIONS);
        secondCopy.takeFrom(asked.second());
        for (int done = 1; done <= most; done++) {
            secondCopy.promote(asked.length());
            if (secondCopy.isSameAs(asked.second())) {
                return done;
            }
        }
        return 0;
    }

    // Figures.

    public long checksum() {
        long sum = 0;
        for (int number = 0; number < wordCount; number++) {
            Word asked = wordNumbered(number);
            for (int index = 0; index < asked.length(); index++) {
                sum = 31 * sum + asked.letter(index);
            }
        }
        return sum;
    }

    public float highestShare() throws ArithmeticException {
        if (wordCount == 0) {
            throw new ArithmeticException("there are no words");
        }
        int highest = 0;
        for (int number = 0; number < wordCount; number++) {
            if (wordNumbered(number).canGoUpByNone()) {
                highest++;
            }
        }
        return (float) highest / (float) wordCount;
    }

    public double meanSize() throws ArithmeticException {
        if (shapeCount == 0) {
            throw new ArithmeticException("there are no shapes");
        }
        int sum = 0;
        for (int number = 0; number < shapeCount; number++) {
            sum += shapeNumbered(number).cells();
        }
        return (double) sum / (double) shapeCount;
    }

    public boolean isSound() {
        for (int number = 0; number < shapeCount; number++) {
            Shape asked = shapeNumbered(number);
            if (tableauxByHooks(asked) != growth.standardTableaux(asked)) {
                return false;
            }
        }
        for (int number = 0; number < wordCount; number++) {
            Word asked = wordNumbered(number);
            if (!comesBack(asked) || asked.first().rowLength(0) != asked.longestRow()) {
                return false;
            }
        }
        return true;
    }

    // What the calls need.

    private Shape shapeNumbered(int number) {
        if (number < 0 || number >= shapeCount || number >= shapes.length || shapes[number] == null) {
            throw new IndexOutOfBoundsException("there is no such shape");
        }
        return shapes[number];
    }

    private Word wordNumbered(int number) {
        if (number < 0 || number >= wordCount || number >= words.length || words[number] == null) {
            throw new IndexOutOfBoundsException("there is no such word");
        }
        return words[number];
    }

    private static void requireWithin(int value, int least, int most) {
        if (value < least || value > most) {
            throw new IllegalArgumentException("this is out of range");
        }
    }

    private static void requireAsManyCells(Shape one, Shape another) {
        if (one.cells() != another.cells()) {
            throw new IllegalArgumentException("the shapes have not as many cells");
        }
    }

    /** Letters and recorded numbers are never 0, so 0 stands for what is not there. */
    private static int existing(int found) {
        if (found == 0) {
            throw new NoSuchElementException("there is none");
        }
        return found;
    }

    private static boolean tellsShape(int digits) {
        int left = digits;
        int behind = 1;
        int parts = 0;
        int cells = 0;
        for (int digit = 0; digit < MOST_DIGITS && left > 0; digit++) {
            int part = left % 10;
            if (part < behind || part > GREATEST_PART) {
                return false;
            }
            behind = part;
            parts++;
            cells += part;
            left /= 10;
        }
        return left == 0 && parts <= MOST_PARTS && cells <= MOST_CELLS;
    }

    private static long tableauxByHooks(Shape shape) {
        long numbers = 1;
        long hooks = 1;
        int number = 0;
        for (int row = 0; row < MOST_PARTS; row++) {
            for (int column = 0; column < shape.partAt(row); column++) {
                number++;
                numbers *= number;
                hooks *= shape.hookAt(row, column);
            }
        }
        return hooks == 0 ? 0 : numbers / hooks;
    }

    /** On beads a ribbon is taken away by moving one bead back by as many places as the ribbon has cells. */
    private static boolean canMove(int beads, int place, int back) {
        if (back < 1 || place < back || place >= BEAD_PLACES) {
            return false;
        }
        return (beads >> place & 1) == 1 && (beads >> (place - back) & 1) == 0;
    }

    private static int moved(int beads, int place, int back) {
        return beads ^ (1 << place) ^ (1 << (place - back));
    }

    /** Each row of the ribbon but its first one is a bead that the moved bead jumps over. */
    private static boolean hasOddHeight(int beads, int place, int back) {
        int between = (1 << place) - (1 << (place - back + 1));
        return (Integer.bitCount(beads & between) & 1) == 1;
    }

    private static int characterOf(int beads, Shape ribbons, int index) {
        int ribbon = ribbons.partAt(index);
        if (index >= MOST_PARTS || ribbon == 0) {
            return 1;
        }
        int sum = 0;
        for (int place = ribbon; place < BEAD_PLACES; place++) {
            if (canMove(beads, place, ribbon)) {
                int left = characterOf(moved(beads, place, ribbon), ribbons, index + 1);
                sum += hasOddHeight(beads, place, ribbon) ? -left : left;
            }
        }
        return sum;
    }

    private static int cellsOfCore(Shape shape, int ribbon) {
        int beads = shape.beads();
        int cells = shape.cells();
        for (int taken = 0; taken < MOST_CELLS; taken++) {
            int place = movablePlace(beads, ribbon);
            if (place == NOWHERE) {
                return cells;
            }
            beads = moved(beads, place, ribbon);
            cells -= ribbon;
        }
        return cells;
    }

    private static int movablePlace(int beads, int back) {
        for (int place = 0; place < BEAD_PLACES; place++) {
            if (canMove(beads, place, back)) {
                return place;
            }
        }
        return NOWHERE;
    }

    private static int waysToWrite(Writing writing, int place) {
        if (place >= MOST_CELLS || place >= writing.places()) {
            return 1;
        }
        int sum = 0;
        int most = writing.most(place);
        for (int number = writing.least(place); number <= most; number++) {
            if (writing.canCome(number)) {
                writing.write(place, number);
                sum += waysToWrite(writing, place + 1);
                writing.takeBack(number);
            }
        }
        return sum;
    }

    private boolean comesBack(Word word) {
        firstCopy.takeFrom(word.first());
        secondCopy.takeFrom(word.second());
        for (int number = word.length(); number >= 1; number--) {
            if (takenOut(number) != word.letter(number - 1)) {
                return false;
            }
        }
        return true;
    }

    /** Takes the cell with the greatest number out of both copies; returns the letter that leaves the row 0. */
    private int takenOut(int number) {
        int row = secondCopy.rowThatEndsWith(number);
        int end = secondCopy.rowLength(row) - 1;
        int letter = firstCopy.at(row, end);
        firstCopy.put(row, end, 0);
        secondCopy.put(row, end, 0);
        for (int above = row - 1; above >= 0; above--) {
            letter = firstCopy.pullOutOf(above, letter);
        }
        return letter;
    }

    /** A row of parts, which never changes. */
    private static final class Shape {
        private final int[] parts = new int[MOST_PARTS];
        private final int[] columns = new int[GREATEST_PART];
        private final int cells;

        Shape(int digits) {
            int left = digits;
            for (int digit = 0; digit < MOST_PARTS && left > 0; digit++) {
                // The last part is read first, so each part read pushes the others behind it.
                System.arraycopy(parts, 0, parts, 1, MOST_PARTS - 1);
                parts[0] = left % 10;
                left /= 10;
            }
            int sum = 0;
            for (int row = 0; row < MOST_PARTS; row++) {
                sum += parts[row];
                for (int column = 0; column < parts[row] && column < GREATEST_PART; column++) {
                    columns[column]++;
                }
            }
            cells = sum;
        }

        int cells() {
            return cells;
        }

        int partAt(int index) {
            return index < 0 || index >= parts.length ? 0 : parts[index];
        }

        int columnAt(int index) {
            return index < 0 || index >= columns.length ? 0 : columns[index];
        }

        boolean hasCell(int row, int column) {
            return column >= 0 && column < partAt(row);
        }

        int hookAt(int row, int column) {
            return partAt(row) - column + columnAt(column) - row - 1;
        }

        boolean holds(Shape inner) {
            for (int row = 0; row < MOST_PARTS; row++) {
                if (inner.partAt(row) > partAt(row)) {
                    return false;
                }
            }
            return true;
        }

        /** The rows as beads on places, a bit each: a row's part and the number of rows below it tell its place. */
        int beads() {
            int beads = 0;
            for (int row = 0; row < MOST_PARTS; row++) {
                beads |= 1 << (partAt(row) + MOST_PARTS - 1 - row);
            }
            return beads;
        }
    }

    /**
     * Counts the fillings of a shape by all the lesser shapes within it, each a cell greater than another one.
     * Equal numbers come from the left to the right, so each stands in the row of the one before or further up.
     */
    private static final class Growth {
        /** No shape has more rows of lengths within its own: 4 parts of 2 and 4 parts of 1 have 81 * 16. */
        private static final int MOST_STATES = 1296;

        private final int[] numbers = new int[MOST_CELLS + 1];
        private final int[] lengths = new int[MOST_PARTS];
        private final int[] steps = new int[MOST_PARTS];
        private final int[] ways = new int[MOST_STATES * MOST_PARTS];

        int standardTableaux(Shape shape) {
            for (int cell = 1; cell <= MOST_CELLS; cell++) {
                numbers[cell] = cell;
            }
            return fillingsOf(shape);
        }

        int fillingsBy(Shape shape, Shape other) {
            int cell = 0;
            for (int index = 0; index < MOST_PARTS; index++) {
                for (int one = 0; one < other.partAt(index) && cell < MOST_CELLS; one++) {
                    cell++;
                    numbers[cell] = index + 1;
                }
            }
            return fillingsOf(shape);
        }

        private int fillingsOf(Shape shape) {
            int states = begin(shape);
            for (int state = 1; state < states; state++) {
                lengthen(shape);
                if (isShape()) {
                    growInto(state);
                }
            }
            return waysFrom(states - 1, 0);
        }

        /** Begins without cells; returns how many rows of lengths are within the shape. */
        private int begin(Shape shape) {
            int states = 1;
            for (int row = 0; row < MOST_PARTS; row++) {
                lengths[row] = 0;
                steps[row] = states;
                states *= shape.partAt(row) + 1;
                // The first number may come into any row, so it comes behind one in the last row.
                setWays(0, row, row == MOST_PARTS - 1 ? 1 : 0);
            }
            return states < MOST_STATES ? states : MOST_STATES;
        }

        /** Goes on to the next lengths as a number with a digit for each row is counted up. */
        private void lengthen(Shape shape) {
            for (int row = 0; row < MOST_PARTS; row++) {
                if (lengths[row] < shape.partAt(row)) {
                    lengths[row]++;
                    return;
                }
                lengths[row] = 0;
            }
        }

        private int lengthAt(int row) {
            return row < 0 || row >= lengths.length ? 0 : lengths[row];
        }

        private boolean isShape() {
            for (int row = 0; row < MOST_PARTS; row++) {
                if (lengthAt(row) < lengthAt(row + 1)) {
                    return false;
                }
            }
            return true;
        }

        private void growInto(int state) {
            boolean repeats = repeatsNumber();
            for (int row = 0; row < MOST_PARTS; row++) {
                boolean ends = lengthAt(row) > lengthAt(row + 1);
                int sum = ends ? waysFrom(state - steps[row], repeats ? row : 0) : 0;
                setWays(state, row, sum);
            }
        }

        private boolean repeatsNumber() {
            int cells = 0;
            for (int row = 0; row < MOST_PARTS; row++) {
                cells += lengthAt(row);
            }
            return cells >= 1 && cells < numbers.length && numbers[cells] == numbers[cells - 1];
        }

        /** The ways to fill these lengths with the last number in this row or below it. */
        private int waysFrom(int state, int top) {
            int sum = 0;
            for (int row = top; row < MOST_PARTS; row++) {
                int index = state * MOST_PARTS + row;
                sum += index < 0 || index >= ways.length ? 0 : ways[index];
            }
            return sum;
        }

        private void setWays(int state, int row, int sum) {
            int index = state * MOST_PARTS + row;
            if (index >= 0 && index < ways.length) {
                ways[index] = sum;
            }
        }
    }

    /** Numbers written into the cells between two shapes, row by row from the top, each row from the right. */
    private static final class Writing {
        private final Grid written = new Grid();
        private final int[] rows = new int[MOST_CELLS];
        private final int[] columns = new int[MOST_CELLS];
        private final int[] left = new int[MOST_PARTS + 1];
        private final int[] come = new int[MOST_PARTS + 1];
        private int places;

        void begin(Shape outer, Shape inner, Shape numbers) {
            written.clear();
            places = 0;
            for (int number = 1; number <= MOST_PARTS; number++) {
                left[number] = numbers.partAt(number - 1);
                come[number] = 0;
            }
            for (int row = 0; row < MOST_PARTS; row++) {
                for (int column = outer.partAt(row) - 1; column >= inner.partAt(row); column--) {
                    addPlace(row, column);
                }
            }
        }

        private void addPlace(int row, int column) {
            if (places < rows.length && places < columns.length) {
                rows[places] = row;
                columns[places] = column;
                places++;
            }
        }

        int places() {
            return places;
        }

        private int rowAt(int place) {
            return place < 0 || place >= rows.length ? 0 : rows[place];
        }

        private int columnAt(int place) {
            return place < 0 || place >= columns.length ? 0 : columns[place];
        }

        int least(int place) {
            return written.at(rowAt(place) - 1, columnAt(place)) + 1;
        }

        int most(int place) {
            int right = written.at(rowAt(place), columnAt(place) + 1);
            return right == 0 ? MOST_PARTS : right;
        }

        boolean canCome(int number) {
            if (number < 1 || number >= left.length || number >= come.length || left[number] == 0) {
                return false;
            }
            return number == 1 || come[number] < come[number - 1];
        }

        void write(int place, int number) {
            written.put(rowAt(place), columnAt(place), number);
            comeAgain(number, 1);
        }

        /** The number stays in its cell, since another one is written there before any cell looks at it. */
        void takeBack(int number) {
            comeAgain(number, -1);
        }

        private void comeAgain(int number, int times) {
            if (number >= 1 && number < left.length && number < come.length) {
                left[number] -= times;
                come[number] += times;
            }
        }
    }

    /** A word with its two tableaux, which are always those of its letters. */
    private static final class Word {
        private final int[] letters = new int[MOST_LETTERS];
        private final int[] longest = new int[MOST_LETTERS];
        private final Grid first = new Grid();
        private final Grid second = new Grid();
        private int length;

        int length() {
            return length;
        }

        /** The letter at an index, 0 if there is none. */
        int letter(int index) {
            return index < 0 || index >= length || index >= letters.length ? 0 : letters[index];
        }

        Grid first() {
            return first;
        }

        Grid second() {
            return second;
        }

        void add(int letter) {
            if (length < letters.length) {
                letters[length] = letter;
                length++;
                insert(letter, length);
            }
        }

        void change(int index, int letter) {
            if (index >= 0 && index < length && index < letters.length) {
                letters[index] = letter;
                insertAllAnew();
            }
        }

        private void insertAllAnew() {
            first.clear();
            second.clear();
            for (int index = 0; index < length; index++) {
                insert(letter(index), index + 1);
            }
        }

        private void insert(int letter, int number) {
            int coming = letter;
            for (int row = 0; row < MOST_LETTERS; row++) {
                coming = first.pushInto(row, coming);
                if (coming == 0) {
                    second.put(row, first.rowLength(row) - 1, number);
                    return;
                }
            }
        }

        int descents() {
            int descents = 0;
            for (int index = 0; index + 1 < length; index++) {
                if (letter(index) > letter(index + 1)) {
                    descents++;
                }
            }
            return descents;
        }

        int sumOfDescents() {
            int sum = 0;
            for (int index = 0; index + 1 < length; index++) {
                if (letter(index) > letter(index + 1)) {
                    sum += index + 1;
                }
            }
            return sum;
        }

        int inversions() {
            int pairs = 0;
            for (int index = 0; index < length; index++) {
                for (int behind = index + 1; behind < length; behind++) {
                    if (letter(index) > letter(behind)) {
                        pairs++;
                    }
                }
            }
            return pairs;
        }

        int longestRow() {
            int most = 0;
            for (int index = 0; index < length && index < longest.length; index++) {
                longest[index] = 1;
                for (int ahead = 0; ahead < index; ahead++) {
                    if (letter(ahead) <= letter(index)) {
                        longest[index] = Math.max(longest[index], longest[ahead] + 1);
                    }
                }
                most = Math.max(most, longest[index]);
            }
            return most;
        }

        /** The index of the last letter i that no letter i + 1 ahead of it fits. */
        int lastFreeLesser(int number) {
            int open = 0;
            int last = NOWHERE;
            for (int index = 0; index < length; index++) {
                if (letter(index) == number + 1) {
                    open++;
                } else if (letter(index) == number && open > 0) {
                    open--;
                } else if (letter(index) == number) {
                    last = index;
                }
            }
            return last;
        }

        /** The index of the first letter i + 1 that no letter i behind it fits. */
        int firstFreeGreater(int number) {
            int open = 0;
            int foremost = NOWHERE;
            for (int index = length - 1; index >= 0; index--) {
                if (letter(index) == number) {
                    open++;
                } else if (letter(index) == number + 1 && open > 0) {
                    open--;
                } else if (letter(index) == number + 1) {
                    foremost = index;
                }
            }
            return foremost;
        }

        boolean canGoUpByNone() {
            for (int number = 1; number <= GREATEST_WALK; number++) {
                if (firstFreeGreater(number) != NOWHERE) {
                    return false;
                }
            }
            return true;
        }
    }

    /** Numbers in rows and columns, 0 where there is no cell; it can be asked for any place, inside or outside. */
    private static final class Grid {
        private static final int SIDE = 12;

        private final int[] numbers = new int[SIDE * SIDE];

        private static boolean isInside(int row, int column) {
            return row >= 0 && row < SIDE && column >= 0 && column < SIDE;
        }

        int at(int row, int column) {
            return isInside(row, column) ? numbers[row * SIDE + column] : 0;
        }

        void put(int row, int column, int number) {
            if (isInside(row, column)) {
                numbers[row * SIDE + column] = number;
            }
        }

        void clear() {
            Arrays.fill(numbers, 0);
        }

        void takeFrom(Grid other) {
            System.arraycopy(other.numbers, 0, numbers, 0, SIDE * SIDE);
        }

        boolean isSameAs(Grid other) {
            for (int index = 0; index < SIDE * SIDE; index++) {
                if (numbers[index] != other.numbers[index]) {
                    return false;
                }
            }
            return true;
        }

        int rowLength(int row) {
            for (int column = 0; column < SIDE; column++) {
                if (at(row, column) == 0) {
                    return column;
                }
            }
            return SIDE;
        }

        int rowThatEndsWith(int number) {
            for (int row = 0; row < SIDE; row++) {
                if (at(row, rowLength(row) - 1) == number) {
                    return row;
                }
            }
            return NOWHERE;
        }

        /** Puts a letter in the place of the first greater one, which is returned, or at the end, which returns 0. */
        int pushInto(int row, int letter) {
            int column = 0;
            while (column < SIDE && at(row, column) != 0 && at(row, column) <= letter) {
                column++;
            }
            int leaving = at(row, column);
            put(row, column, letter);
            return leaving;
        }

        /** Puts a letter in the place of the last lesser one, which is returned; 0 if there is none. */
        int pullOutOf(int row, int letter) {
            for (int column = rowLength(row) - 1; column >= 0; column--) {
                int leaving = at(row, column);
                if (leaving < letter) {
                    put(row, column, letter);
                    return leaving;
                }
            }
            return 0;
        }

        /** Promotes a standard tableau; an empty one stays empty, since its gap gets 1 and becomes 1 less. */
        void promote(int greatest) {
            int row = 0;
            int column = 0;
            for (int step = 0; step < SIDE + SIDE; step++) {
                int right = at(row, column + 1);
                int below = at(row + 1, column);
                if (right == 0 && below == 0) {
                    break;
                }
                if (below == 0 || right != 0 && right < below) {
                    put(row, column, right);
                    column++;
                } else {
                    put(row, column, below);
                    row++;
                }
            }
            put(row, column, greatest + 1);
            lessenAll();
        }

        private void lessenAll() {
            for (int index = 0; index < SIDE * SIDE; index++) {
                if (numbers[index] > 0) {
                    numbers[index]--;
                }
            }
        }
    }
}
