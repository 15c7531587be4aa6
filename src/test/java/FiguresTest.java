/** Promises 25 to 28: checksum, highestShare, meanSize, isSound. */
public final class FiguresTest {
    public static void main(String[] args) {
        knownFigures();
        manyWords();
        sizes();
        everyShapeIsSound();
        Check.end("FiguresTest");
    }

    private static void knownFigures() {
        Tableauhall hall = new Tableauhall();
        hall.word();
        Check.same("checksum of an empty word", hall.checksum(), 0L);
        Check.same("share of an empty word", hall.highestShare(), 1.0f);
        hall.append(0, 3);
        Check.same("checksum of 3", hall.checksum(), 3L);
        Check.same("share of 3", hall.highestShare(), 0.0f);
        hall.append(0, 5);
        Check.same("checksum of 3, 5", hall.checksum(), 98L);
        hall.word();
        hall.word();
        hall.append(2, 1);
        Check.same("checksum of 3, 5 and 1", hall.checksum(), 3039L);
        Check.same("share of two of three", hall.highestShare(), 2.0f / 3.0f);
        hall.append(1, 2);
        Check.same("checksum in the order of the words", hall.checksum(), (98L * 31 + 2) * 31 + 1);
        hall.up(1, 1);
        Check.same("checksum behind a walk", hall.checksum(), (98L * 31 + 1) * 31 + 1);
        Check.same("share behind a walk", hall.highestShare(), 2.0f / 3.0f);
        Check.refuses("meanSize without shapes", Check.BAD_SUM, hall::meanSize);
        Tableauhall other = new Tableauhall();
        other.shape(21);
        Check.refuses("highestShare without words", Check.BAD_SUM, other::highestShare);
    }

    private static void manyWords() {
        Tableauhall hall = null;
        long sum = 0;
        int number = 0;
        for (int[] letters : Samples.words(400)) {
            if (number % 8 == 0) {
                hall = new Tableauhall();
                sum = 0;
            }
            Samples.put(hall, letters);
            for (int letter : letters) {
                sum = sum * 31 + letter;
            }
            number++;
            Check.same("checksum of many words", hall.checksum(), sum);
            Check.same("isSound of many words", hall.isSound(), true);
        }
    }

    private static void sizes() {
        Tableauhall hall = new Tableauhall();
        int[] shapes = {0, 21, 84, 1, 22, 0, 5, 321, 11111111, 66, 2, 3};
        int[] sizes = {0, 3, 12, 1, 4, 0, 5, 6, 8, 12, 2, 3};
        int sum = 0;
        for (int number = 0; number < shapes.length; number++) {
            hall.shape(shapes[number]);
            sum += sizes[number];
            Check.same("meanSize", hall.meanSize(), (double) sum / (double) (number + 1));
        }
        Check.same("isSound", hall.isSound(), true);
    }

    private static void everyShapeIsSound() {
        Tableauhall hall = new Tableauhall();
        int number = 0;
        for (int[] shape : Samples.shapesUpTo(12)) {
            hall = number % 12 == 0 ? new Tableauhall() : hall;
            hall.shape(Samples.digits(shape));
            Check.same("isSound with " + Samples.digits(shape), hall.isSound(), true);
            number++;
        }
    }
}
