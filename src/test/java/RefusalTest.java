import java.util.ArrayList;
import java.util.List;

/** A call that throws changes nothing, and the exception that is documented first is thrown. */
public final class RefusalTest {
    private static final int[] SHAPES = {0, 1, 21, 321, 84, 66, 444, 3333, 11111111, 22, 4, 211};
    private static final int[] EXTREMES = {Integer.MIN_VALUE, -1, 12, 201, Integer.MAX_VALUE};

    public static void main(String[] args) {
        Tableauhall hall = new Tableauhall();
        for (int digits : SHAPES) {
            hall.shape(digits);
        }
        for (int number = 0; number < 8; number++) {
            int[] letters = new int[number == 7 ? 12 : number];
            for (int index = 0; index < letters.length; index++) {
                letters[index] = 1 + (index * 5 + number) % 9;
            }
            Samples.put(hall, letters);
        }
        String before = state(hall);
        for (int wrong : EXTREMES) {
            refuseAll(hall, wrong);
        }
        Check.refuses("a full hall's shape", Check.BAD_STATE, () -> hall.shape(1));
        Check.refuses("a full hall's word", Check.BAD_STATE, hall::word);
        Check.refuses("a full word's letter", Check.BAD_STATE, () -> hall.append(7, 1));
        Check.refuses("a full word's wrong letter", Check.BAD_ARGUMENT, () -> hall.append(7, 0));
        Check.same("all is as it was", state(hall), before);
        Check.end("RefusalTest");
    }

    /** Every call with a wrong number of a shape or word and another wrong argument, then with this one alone. */
    private static void refuseAll(Tableauhall hall, int wrong) {
        Check.refuses("shape", wrong == 201 || wrong == 12 || wrong < 0 || wrong == Integer.MAX_VALUE
            ? Check.BAD_ARGUMENT : Check.BAD_STATE, () -> hall.shape(wrong));
        Check.refuses("part", Check.NO_INDEX, () -> hall.part(wrong, wrong));
        Check.refuses("column", Check.NO_INDEX, () -> hall.column(wrong, wrong));
        Check.refuses("hook", Check.NO_INDEX, () -> hall.hook(wrong, wrong, wrong));
        Check.refuses("fillings", Check.NO_INDEX, () -> hall.fillings(1, wrong));
        Check.refuses("character", Check.NO_INDEX, () -> hall.character(wrong, 1));
        Check.refuses("core", Check.NO_INDEX, () -> hall.core(wrong, 0));
        Check.refuses("coefficient", Check.NO_INDEX, () -> hall.coefficient(1, 2, wrong));
        Check.refuses("append", Check.NO_INDEX, () -> hall.append(wrong, wrong));
        Check.refuses("letterAt", Check.NO_INDEX, () -> hall.letterAt(wrong, wrong));
        Check.refuses("rowOf", Check.NO_INDEX, () -> hall.rowOf(wrong, wrong));
        Check.refuses("count", Check.NO_INDEX, () -> hall.count(wrong, 'x'));
        Check.refuses("down", Check.NO_INDEX, () -> hall.down(wrong, wrong));
        Check.refuses("up", Check.NO_INDEX, () -> hall.up(wrong, wrong));
        Check.refuses("orbit", Check.NO_INDEX, () -> hall.orbit(wrong, wrong));
        Check.refuses("part's index", Check.BAD_ARGUMENT, () -> hall.part(2, wrong));
        Check.refuses("hook's cell", Check.NO_ELEMENT, () -> hall.hook(2, wrong, wrong));
        Check.refuses("fillings' sizes", Check.BAD_ARGUMENT, () -> hall.fillings(1, 2));
        Check.refuses("character's sizes", Check.BAD_ARGUMENT, () -> hall.character(2, 1));
        Check.refuses("append's letter", Check.BAD_ARGUMENT, () -> hall.append(3, wrong));
        Check.refuses("down's number", Check.BAD_ARGUMENT, () -> hall.down(3, wrong));
        Check.refuses("up's number", Check.BAD_ARGUMENT, () -> hall.up(3, wrong));
        if (wrong != 12) {
            Check.refuses("orbit's number", Check.BAD_ARGUMENT, () -> hall.orbit(3, wrong));
            Check.refuses("core's cells", Check.BAD_ARGUMENT, () -> hall.core(2, wrong));
        }
    }

    /** All that can be told of the shapes and words by few calls. */
    private static String state(Tableauhall hall) {
        List<Object> told = new ArrayList<>();
        for (int shape = 0; shape < 12; shape++) {
            told.add(hall.size(shape));
            told.add(hall.column(shape, 0));
        }
        for (int word = 0; word < 8; word++) {
            int length = word == 7 ? 12 : word;
            for (int index = 0; index < length; index++) {
                told.add(hall.letterAt(word, index));
            }
            told.add(hall.rowOf(word, 0));
            told.add(hall.orbit(word, 200));
        }
        told.add(hall.checksum());
        told.add(hall.highestShare());
        told.add(hall.meanSize());
        told.add(hall.isSound());
        return told.toString();
    }
}
