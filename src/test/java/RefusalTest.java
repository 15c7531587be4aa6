/**
 * "A method that throws an exception changes nothing. If several exceptions apply, the one that is documented first is
 * thrown." Each refused call is made in an empty, a begun and a full workshop, whose portraits stay as they were.
 */
public final class RefusalTest {
    private static final int LEAST = Integer.MIN_VALUE;
    private static final int GREATEST = Integer.MAX_VALUE;

    private final String state;
    private final Portrait.Making making;
    private final int shapes;
    private final int words;
    private final String before;

    private RefusalTest(String state, Portrait.Making making, int shapes, int words) {
        this.state = state;
        this.making = making;
        this.shapes = shapes;
        this.words = words;
        before = Portrait.of(making);
    }

    public static void main(String[] args) {
        new RefusalTest("an empty one", Tableauhall::new, 0, 0).refuseAll();
        new RefusalTest("a begun one", RefusalTest::begunHall, 3, 4).refuseAll();
        new RefusalTest("a full one", Samples::fullHall, 12, 8).refuseAll();
        Check.end("RefusalTest");
    }

    /** Shapes of none, 3 and 12 cells; words of none, 3 and 12 letters, with letters for each walk. */
    private static Tableauhall begunHall() {
        Tableauhall hall = Samples.hallOf(0, 21, 84);
        Samples.put(hall);
        Samples.put(hall, 2, 1, 2);
        Samples.put(hall, 1, 2, 3, 4, 5, 6, 7, 8, 9, 9, 1, 1);
        Samples.put(hall, 9, 8, 7, 6, 5, 4, 3, 2, 1, 2, 8);
        return hall;
    }

    private void refuse(String what, Class<?> due, Portrait.Question call) {
        Check.same(what + " in " + state, Portrait.answer(making.make(), call), due);
        String behind = Portrait.of(() -> {
            Tableauhall hall = making.make();
            Portrait.answer(hall, call);
            return hall;
        });
        Check.same(what + " has changed nothing in " + state, behind.equals(before), true);
    }

    private void refuseAll() {
        partsOfNoShape();
        numbersOfNoShape();
        placesOfShapes();
        pairsOfShapes();
        wordsAndLetters();
        numbersOfNoWord();
        placesOfWords();
        numbersOfWalks();
        figuresOfNone();
    }

    /** Wrong parts come first, whether there is room for a shape or not. */
    private void partsOfNoShape() {
        for (int parts : new int[] {LEAST, -1, 9, 10, 12, 85, 111111111, GREATEST}) {
            refuse("shape(" + parts + ")", Check.BAD_ARGUMENT, hall -> hall.shape(parts));
        }
        if (shapes == 12) {
            refuse("shape(21)", Check.BAD_STATE, hall -> hall.shape(21));
            refuse("shape(0)", Check.BAD_STATE, hall -> hall.shape(0));
        }
    }

    /** A shape that is not there comes first, whatever the other arguments are. */
    private void numbersOfNoShape() {
        for (int wrong : new int[] {LEAST, -1, shapes, GREATEST}) {
            String what = " of shape " + wrong;
            refuse("size" + what, Check.NO_INDEX, hall -> hall.size(wrong));
            refuse("part 0" + what, Check.NO_INDEX, hall -> hall.part(wrong, 0));
            refuse("part 12" + what, Check.NO_INDEX, hall -> hall.part(wrong, 12));
            refuse("column 0" + what, Check.NO_INDEX, hall -> hall.column(wrong, 0));
            refuse("column -1" + what, Check.NO_INDEX, hall -> hall.column(wrong, -1));
            refuse("hook" + what, Check.NO_INDEX, hall -> hall.hook(wrong, 0, 0));
            refuse("hook without cell" + what, Check.NO_INDEX, hall -> hall.hook(wrong, -1, 8));
            refuse("tableaux" + what, Check.NO_INDEX, hall -> hall.tableaux(wrong));
            refuse("tableauxAnew" + what, Check.NO_INDEX, hall -> hall.tableauxAnew(wrong));
            refuse("fillings" + what, Check.NO_INDEX, hall -> hall.fillings(wrong, 0));
            refuse("fillings by it" + what, Check.NO_INDEX, hall -> hall.fillings(0, wrong));
            refuse("character" + what, Check.NO_INDEX, hall -> hall.character(wrong, 1));
            refuse("character at it" + what, Check.NO_INDEX, hall -> hall.character(1, wrong));
            refuse("core for 1" + what, Check.NO_INDEX, hall -> hall.core(wrong, 1));
            refuse("core for 0" + what, Check.NO_INDEX, hall -> hall.core(wrong, 0));
            refuse("coefficient" + what, Check.NO_INDEX, hall -> hall.coefficient(wrong, 0, 0));
            refuse("coefficient in it" + what, Check.NO_INDEX, hall -> hall.coefficient(0, wrong, 2));
            refuse("coefficient by it" + what, Check.NO_INDEX, hall -> hall.coefficient(0, 2, wrong));
        }
    }

    private void placesOfShapes() {
        if (shapes == 0) {
            return;
        }
        int last = shapes - 1;
        for (int wrong : new int[] {LEAST, -1, 12, GREATEST}) {
            refuse("part " + wrong, Check.BAD_ARGUMENT, hall -> hall.part(last, wrong));
            refuse("column " + wrong, Check.BAD_ARGUMENT, hall -> hall.column(last, wrong));
            refuse("hook in row " + wrong, Check.NO_ELEMENT, hall -> hall.hook(last, wrong, 0));
            refuse("hook in column " + wrong, Check.NO_ELEMENT, hall -> hall.hook(last, 0, wrong));
        }
        refuse("hook of none", Check.NO_ELEMENT, hall -> hall.hook(0, 0, 0));
        for (int wrong : new int[] {LEAST, -1, 0, 13, GREATEST}) {
            refuse("core for " + wrong, Check.BAD_ARGUMENT, hall -> hall.core(last, wrong));
        }
    }

    private void pairsOfShapes() {
        if (shapes == 0) {
            return;
        }
        refuse("fillings of none by more", Check.BAD_ARGUMENT, hall -> hall.fillings(0, 2));
        refuse("fillings of more by none", Check.BAD_ARGUMENT, hall -> hall.fillings(2, 0));
        refuse("fillings of other sizes", Check.BAD_ARGUMENT, hall -> hall.fillings(2, 1));
        refuse("character of none at more", Check.BAD_ARGUMENT, hall -> hall.character(0, 2));
        refuse("character of more at none", Check.BAD_ARGUMENT, hall -> hall.character(2, 0));
        refuse("character of other sizes", Check.BAD_ARGUMENT, hall -> hall.character(2, 1));
    }

    /** A wrong letter comes first, whether there is room for it or not. */
    private void wordsAndLetters() {
        if (words == 8) {
            refuse("word", Check.BAD_STATE, Tableauhall::word);
        }
        if (words == 0) {
            return;
        }
        for (int wrong : new int[] {LEAST, -1, 0, 10, GREATEST}) {
            refuse("append " + wrong, Check.BAD_ARGUMENT, hall -> hall.append(words - 1, wrong));
            refuse("append to a full word " + wrong, Check.BAD_ARGUMENT, hall -> hall.append(2, wrong));
        }
        refuse("append to a full word", Check.BAD_STATE, hall -> hall.append(2, 1));
        refuse("append 9 to a full word", Check.BAD_STATE, hall -> hall.append(2, 9));
    }

    /** A word that is not there comes first, whatever the other arguments are. */
    private void numbersOfNoWord() {
        for (int wrong : new int[] {LEAST, -1, words, GREATEST}) {
            String what = " of word " + wrong;
            refuse("append" + what, Check.NO_INDEX, hall -> hall.append(wrong, 1));
            refuse("append 0" + what, Check.NO_INDEX, hall -> hall.append(wrong, 0));
            refuse("letterAt 0" + what, Check.NO_INDEX, hall -> hall.letterAt(wrong, 0));
            refuse("letterAt -1" + what, Check.NO_INDEX, hall -> hall.letterAt(wrong, -1));
            refuse("rowOf 0" + what, Check.NO_INDEX, hall -> hall.rowOf(wrong, 0));
            refuse("rowOf 12" + what, Check.NO_INDEX, hall -> hall.rowOf(wrong, 12));
            refuse("inserted" + what, Check.NO_INDEX, hall -> hall.inserted(wrong, 0, 0));
            refuse("inserted without cell" + what, Check.NO_INDEX, hall -> hall.inserted(wrong, -1, 12));
            refuse("recorded" + what, Check.NO_INDEX, hall -> hall.recorded(wrong, 0, 0));
            refuse("recorded without cell" + what, Check.NO_INDEX, hall -> hall.recorded(wrong, 12, -1));
            refuse("areAlike" + what, Check.NO_INDEX, hall -> hall.areAlike(wrong, 0));
            refuse("areAlike with it" + what, Check.NO_INDEX, hall -> hall.areAlike(0, wrong));
            refuse("areAlike of itself" + what, Check.NO_INDEX, hall -> hall.areAlike(wrong, wrong));
            refuse("count 'd'" + what, Check.NO_INDEX, hall -> hall.count(wrong, 'd'));
            refuse("count 'x'" + what, Check.NO_INDEX, hall -> hall.count(wrong, 'x'));
            refuse("down by 1" + what, Check.NO_INDEX, hall -> hall.down(wrong, 1));
            refuse("down by 9" + what, Check.NO_INDEX, hall -> hall.down(wrong, 9));
            refuse("up by 1" + what, Check.NO_INDEX, hall -> hall.up(wrong, 1));
            refuse("up by 0" + what, Check.NO_INDEX, hall -> hall.up(wrong, 0));
            refuse("isHighest" + what, Check.NO_INDEX, hall -> hall.isHighest(wrong));
            refuse("orbit by 1" + what, Check.NO_INDEX, hall -> hall.orbit(wrong, 1));
            refuse("orbit by 201" + what, Check.NO_INDEX, hall -> hall.orbit(wrong, 201));
        }
    }

    private void placesOfWords() {
        if (words == 0) {
            return;
        }
        int last = words - 1;
        for (int wrong : new int[] {LEAST, -1, 12, GREATEST}) {
            refuse("letterAt " + wrong, Check.NO_ELEMENT, hall -> hall.letterAt(last, wrong));
            refuse("rowOf " + wrong, Check.BAD_ARGUMENT, hall -> hall.rowOf(last, wrong));
            refuse("inserted in row " + wrong, Check.NO_ELEMENT, hall -> hall.inserted(last, wrong, 0));
            refuse("inserted in column " + wrong, Check.NO_ELEMENT, hall -> hall.inserted(last, 0, wrong));
            refuse("recorded in row " + wrong, Check.NO_ELEMENT, hall -> hall.recorded(last, wrong, 0));
            refuse("recorded in column " + wrong, Check.NO_ELEMENT, hall -> hall.recorded(last, 0, wrong));
        }
        for (char wrong : new char[] {0, 'D', 'c', 'e', 'k', 'n', 'I', 'L', 'M', Character.MAX_VALUE}) {
            refuse("count " + (int) wrong, Check.BAD_ARGUMENT, hall -> hall.count(last, wrong));
        }
    }

    private void numbersOfWalks() {
        for (int word = 0; word < Math.min(words, 3); word++) {
            int asked = word;
            for (int wrong : new int[] {LEAST, -1, 0, 9, GREATEST}) {
                refuse("down by " + wrong, Check.BAD_ARGUMENT, hall -> hall.down(asked, wrong));
                refuse("up by " + wrong, Check.BAD_ARGUMENT, hall -> hall.up(asked, wrong));
            }
            for (int wrong : new int[] {LEAST, -1, 0, 201, GREATEST}) {
                refuse("orbit by " + wrong, Check.BAD_ARGUMENT, hall -> hall.orbit(asked, wrong));
            }
        }
    }

    private void figuresOfNone() {
        if (words == 0) {
            refuse("highestShare", Check.BAD_SUM, Tableauhall::highestShare);
        }
        if (shapes == 0) {
            refuse("meanSize", Check.BAD_SUM, Tableauhall::meanSize);
        }
    }
}
