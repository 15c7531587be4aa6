import java.util.ArrayList;
import java.util.List;

/** All that calls tell of a workshop, and what each change makes of it, so that two of them can be compared. */
final class Portrait {
    /** Few enough that making the workshop and asking so much stays below the 512 calls of one object. */
    private static final int QUESTIONS_EACH = 300;

    private static final List<Question> QUESTIONS = new ArrayList<>();
    private static final List<Question> CHANGES = new ArrayList<>();

    interface Making {
        Tableauhall make();
    }

    interface Question {
        Object ask(Tableauhall hall);
    }

    private Portrait() {
    }

    /** The workshop is made anew for each part of the questions, and for each change. */
    static String of(Making making) {
        if (QUESTIONS.isEmpty()) {
            askOfShapes();
            askOfPairsOfShapes();
            askOfWords();
            askOfFigures();
            askForChanges();
        }
        StringBuilder told = new StringBuilder();
        Tableauhall hall = null;
        for (int index = 0; index < QUESTIONS.size(); index++) {
            hall = index % QUESTIONS_EACH == 0 ? making.make() : hall;
            told.append(answer(hall, QUESTIONS.get(index))).append(' ');
        }
        for (Question change : CHANGES) {
            Tableauhall changed = making.make();
            told.append(answer(changed, change)).append(' ').append(changed.checksum()).append(' ');
        }
        return told.toString();
    }

    static Object answer(Tableauhall hall, Question question) {
        try {
            return question.ask(hall);
        } catch (RuntimeException thrown) {
            return thrown.getClass();
        }
    }

    private static void askOfShapes() {
        for (int number = 0; number < 12; number++) {
            int shape = number;
            QUESTIONS.add(hall -> hall.size(shape));
            QUESTIONS.add(hall -> hall.tableaux(shape));
            QUESTIONS.add(hall -> hall.tableauxAnew(shape));
            for (int index = 0; index < 12; index++) {
                int at = index;
                QUESTIONS.add(hall -> hall.part(shape, at));
                QUESTIONS.add(hall -> hall.column(shape, at));
                QUESTIONS.add(hall -> hall.core(shape, at + 1));
            }
            for (int row = 0; row < 8; row++) {
                int at = row;
                QUESTIONS.add(hall -> hall.hook(shape, at, 0));
                QUESTIONS.add(hall -> hall.hook(shape, 0, at));
                QUESTIONS.add(hall -> hall.hook(shape, 1, at));
            }
        }
    }

    private static void askOfPairsOfShapes() {
        for (int number = 0; number < 12; number++) {
            for (int second = 0; second < 12; second++) {
                int shape = number;
                int other = second;
                QUESTIONS.add(hall -> hall.fillings(shape, other));
                QUESTIONS.add(hall -> hall.character(shape, other));
                QUESTIONS.add(hall -> hall.coefficient(shape, other, 2));
            }
        }
    }

    private static void askOfWords() {
        for (int number = 0; number < 8; number++) {
            int word = number;
            for (int index = 0; index < 12; index++) {
                int at = index;
                QUESTIONS.add(hall -> hall.letterAt(word, at));
                QUESTIONS.add(hall -> hall.rowOf(word, at));
                for (int row = 0; row < 5; row++) {
                    int in = row;
                    QUESTIONS.add(hall -> hall.inserted(word, in, at));
                    QUESTIONS.add(hall -> hall.recorded(word, in, at));
                }
            }
            for (char what : new char[] {'d', 'm', 'i', 'l'}) {
                QUESTIONS.add(hall -> hall.count(word, what));
            }
            for (int second = 0; second < 8; second++) {
                int other = second;
                QUESTIONS.add(hall -> hall.areAlike(word, other));
            }
            QUESTIONS.add(hall -> hall.isHighest(word));
            QUESTIONS.add(hall -> hall.orbit(word, 200));
        }
    }

    private static void askOfFigures() {
        QUESTIONS.add(Tableauhall::checksum);
        QUESTIONS.add(Tableauhall::highestShare);
        QUESTIONS.add(Tableauhall::meanSize);
        QUESTIONS.add(Tableauhall::isSound);
    }

    private static void askForChanges() {
        CHANGES.add(hall -> hall.shape(21));
        CHANGES.add(Tableauhall::word);
        for (int number = 0; number < 8; number++) {
            int word = number;
            CHANGES.add(hall -> hall.append(word, 5));
            for (int by = 1; by <= 8; by++) {
                int walk = by;
                CHANGES.add(hall -> hall.down(word, walk));
                CHANGES.add(hall -> hall.up(word, walk));
            }
        }
    }
}
