import java.math.BigInteger;

/** Promises 1 and 25 to 28 at their edges; the comment of a method is the sentence of the document that it tests. */
public final class FiguresEdgesTest {
    public static void main(String[] args) {
        withoutShapesAndWords();
        objectsByThemselves();
        checksumAtFirst();
        checksumOfLeastAndGreatestLetters();
        checksumAroundWhatALongHolds();
        checksumOfFullHalls();
        checksumInTheOrderOfWords();
        noWords();
        everyShare();
        shareWithEmptyWords();
        noShapes();
        leastAndGreatestMean();
        meanThatIsNoWholeNumber();
        soundWhenEmptyAndFull();
        Check.end("FiguresEdgesTest");
    }

    /** Promise 1: "Creates a workshop without shapes and words." */
    private static void withoutShapesAndWords() {
        for (int number : new int[] {Integer.MIN_VALUE, -1, 0, 1, 7, 8, 11, 12, Integer.MAX_VALUE}) {
            Tableauhall hall = new Tableauhall();
            Check.refuses("size of " + number, Check.NO_INDEX, () -> hall.size(number));
            Check.refuses("tableaux of " + number, Check.NO_INDEX, () -> hall.tableaux(number));
            Check.refuses("letterAt of " + number, Check.NO_INDEX, () -> hall.letterAt(number, 0));
            Check.refuses("isHighest of " + number, Check.NO_INDEX, () -> hall.isHighest(number));
            Check.same("isSound of a new object", hall.isSound(), true);
            Check.same("the first shape", hall.shape(0), 0);
            Check.same("the first word", hall.word(), 0);
        }
    }

    private static void objectsByThemselves() {
        String full = Portrait.of(Samples::fullHall);
        String none = Portrait.of(Tableauhall::new);
        Tableauhall one = Samples.fullHall();
        Tableauhall other = new Tableauhall();
        Check.same("a full one and a new one", full.equals(none), false);
        Check.same("the new one's first shape", other.shape(21), 0);
        Check.same("the full one's first shape", one.size(0), 0);
        Check.same("the new one's first word", other.word(), 0);
        Check.same("the new one's first letter", other.append(0, 9), 1);
        Check.same("the new one's orbit", other.orbit(0, 200), 1);
        Check.same("the new one's checksum", other.checksum(), 9L);
        String later = Portrait.of(() -> {
            Tableauhall made = Samples.fullHall();
            other.isSound();
            return made;
        });
        Check.same("the full one behind another one's calls", later.equals(full), true);
    }

    /** Promise 25: "Returns 0 at first". */
    private static void checksumAtFirst() {
        Tableauhall hall = new Tableauhall();
        Check.same("checksum at first", hall.checksum(), 0L);
        hall.shape(84);
        Check.same("checksum with a shape", hall.checksum(), 0L);
        for (int number = 0; number < 8; number++) {
            hall.word();
            Check.same("checksum of empty words", hall.checksum(), 0L);
        }
    }

    /** "then for each letter of each word 31 times itself plus the letter". */
    private static void checksumOfLeastAndGreatestLetters() {
        for (int letter = 1; letter <= 9; letter++) {
            Tableauhall hall = new Tableauhall();
            hall.word();
            hall.append(0, letter);
            Check.same("checksum of one letter", hall.checksum(), (long) letter);
            hall.append(0, 10 - letter);
            Check.same("checksum of two letters", hall.checksum(), 31L * letter + 10 - letter);
        }
    }

    /** "31 times itself plus the letter", as Java reckons with longs: what is too great wraps around. */
    private static void checksumAroundWhatALongHolds() {
        Tableauhall hall = new Tableauhall();
        hall.word();
        hall.word();
        for (int length = 1; length <= 14; length++) {
            hall.append(length <= 12 ? 0 : 1, 9);
            if (length == 13) {
                Check.same("checksum of 13 letters", hall.checksum(), 7325263889233512777L);
            }
        }
        BigInteger whole = BigInteger.valueOf(7325263889233512777L).multiply(BigInteger.valueOf(31))
            .add(BigInteger.valueOf(9));
        Check.same("a long does not hold it", whole.bitLength() > 63, true);
        Check.same("checksum of 14 letters", hall.checksum(), whole.longValue());
    }

    private static void checksumOfFullHalls() {
        boolean below = false;
        for (int least = 1; least <= 9; least++) {
            Tableauhall hall = new Tableauhall();
            BigInteger whole = BigInteger.ZERO;
            for (int count = 0; count < 96; count++) {
                int letter = least == 9 ? 9 : 1 + (count * least + least) % 9;
                int word = count % 12 == 0 ? hall.word() : count / 12;
                hall.append(word, letter);
                whole = whole.multiply(BigInteger.valueOf(31)).add(BigInteger.valueOf(letter));
                Check.same("checksum of " + (count + 1) + " letters", hall.checksum(), whole.longValue());
                below |= whole.longValue() < 0;
            }
        }
        Check.same("some of them are below 0", below, true);
    }

    /** "for each letter of each word": from the word 0 on, each from its first letter on, at whatever time it came. */
    private static void checksumInTheOrderOfWords() {
        Tableauhall hall = new Tableauhall();
        hall.word();
        hall.word();
        hall.word();
        hall.append(2, 5);
        hall.append(0, 7);
        hall.append(2, 6);
        hall.append(0, 8);
        Check.same("checksum of 7, 8 and 5, 6", hall.checksum(), ((7L * 31 + 8) * 31 + 5) * 31 + 6);
        hall.append(1, 1);
        Check.same("with 1 between them", hall.checksum(), (((7L * 31 + 8) * 31 + 1) * 31 + 5) * 31 + 6);
        hall.down(0, 8);
        Check.same("behind a walk", hall.checksum(), (((7L * 31 + 9) * 31 + 1) * 31 + 5) * 31 + 6);
    }

    /** Promise 26: "ArithmeticException if there are none", with shapes too. */
    private static void noWords() {
        Tableauhall hall = new Tableauhall();
        Check.refuses("share of no words", Check.BAD_SUM, hall::highestShare);
        hall.shape(21);
        Check.refuses("share of no words, with a shape", Check.BAD_SUM, hall::highestShare);
        Check.same("the first word", hall.word(), 0);
        Check.same("share of one word", hall.highestShare(), 1.0f);
    }

    /** "Returns their number divided by that of all, both converted to float." */
    private static void everyShare() {
        for (int all = 1; all <= 8; all++) {
            for (int highest = 0; highest <= all; highest++) {
                Tableauhall hall = new Tableauhall();
                for (int number = 0; number < all; number++) {
                    Samples.put(hall, number >= all - highest ? new int[] {2, 1} : new int[] {1, 2});
                }
                Check.same("share of " + highest + " of " + all, hall.highestShare(), (float) highest / (float) all);
            }
        }
        Tableauhall third = new Tableauhall();
        Samples.put(third, 1);
        Samples.put(third, 2);
        Samples.put(third, 3);
        Check.same("share of one of three", third.highestShare(), 0.33333334f);
    }

    private static void shareWithEmptyWords() {
        Tableauhall hall = new Tableauhall();
        for (int number = 0; number < 8; number++) {
            hall.word();
            Check.same("share of empty words", hall.highestShare(), 1.0f);
        }
        hall.append(7, 9);
        Check.same("share of seven empty words and one that is not highest", hall.highestShare(), 0.875f);
        hall.append(0, 2);
        Check.same("share of six empty words and two that are not", hall.highestShare(), 0.75f);
        hall.up(0, 1);
        Check.same("share behind a walk", hall.highestShare(), 0.875f);
    }

    /** Promise 27: "ArithmeticException if there are none", with words too. */
    private static void noShapes() {
        Tableauhall hall = new Tableauhall();
        Check.refuses("mean of no shapes", Check.BAD_SUM, hall::meanSize);
        hall.word();
        Check.refuses("mean of no shapes, with a word", Check.BAD_SUM, hall::meanSize);
        Check.same("the first shape", hall.shape(0), 0);
        Check.same("mean of a shape without cells", hall.meanSize(), 0.0);
    }

    private static void leastAndGreatestMean() {
        Tableauhall least = new Tableauhall();
        Tableauhall greatest = new Tableauhall();
        for (int number = 0; number < 12; number++) {
            least.shape(0);
            greatest.shape(number % 2 == 0 ? 84 : 22221111);
            Check.same("mean of shapes without cells", least.meanSize(), 0.0);
            Check.same("mean of shapes of 12 cells", greatest.meanSize(), 12.0);
        }
    }

    /** "Returns the sum divided by their number, both converted to double." */
    private static void meanThatIsNoWholeNumber() {
        Tableauhall hall = Samples.hallOf(1, 0, 0);
        Check.same("mean of 1, 0, 0", hall.meanSize(), 0.3333333333333333);
        for (int all = 4; all <= 12; all++) {
            hall.shape(0);
            Check.same("mean of 1 and others of none", hall.meanSize(), 1.0 / (double) all);
        }
        Check.same("mean of 84 and 0", Samples.hallOf(84, 0).meanSize(), 6.0);
        Check.same("mean of 2 and 1", Samples.hallOf(2, 1).meanSize(), 1.5);
    }

    /** Promise 28: "Returns whether all is sound". */
    private static void soundWhenEmptyAndFull() {
        Check.same("isSound of a new object", new Tableauhall().isSound(), true);
        Check.same("isSound with a shape without cells", Samples.hallOf(0).isSound(), true);
        Tableauhall words = new Tableauhall();
        for (int number = 0; number < 8; number++) {
            words.word();
            Check.same("isSound with empty words", words.isSound(), true);
        }
        Tableauhall full = Samples.fullHall();
        Check.same("isSound of a full one", full.isSound(), true);
        for (int number = 0; number < 8; number++) {
            for (int walk = 1; walk <= 8; walk++) {
                full.down(number, walk);
                Check.same("isSound behind a walk", full.isSound(), true);
            }
        }
    }
}
