import java.util.Arrays;

/** "An object is used for at most 512 calls after it has been made": the 512th answers as the first did. */
public final class CallsTest {
    private static final int CALLS = 512;
    private static final int CALLS_OF_FULL_HALL = 116;

    public static void main(String[] args) {
        fullHallHasThatManyCalls();
        sameQuestion();
        allQuestionsInTurn();
        refusedCalls();
        walksThereAndBack();
        Check.end("CallsTest");
    }

    /** 12 shapes, 8 words and 12 letters for each. */
    private static void fullHallHasThatManyCalls() {
        Check.same("calls of a full hall", 12 + 8 + 8 * 12, CALLS_OF_FULL_HALL);
    }

    private static Portrait.Question[] questions() {
        return new Portrait.Question[] {
            hall -> hall.size(11),
            hall -> hall.part(8, 7),
            hall -> hall.column(8, 1),
            hall -> hall.hook(8, 0, 0),
            hall -> hall.tableaux(11),
            hall -> hall.tableauxAnew(11),
            hall -> hall.tableauxAnew(8),
            hall -> hall.fillings(4, 8),
            hall -> hall.character(11, 8),
            hall -> hall.core(8, 1),
            hall -> hall.coefficient(11, 2, 3),
            hall -> hall.coefficient(11, 0, 11),
            hall -> hall.letterAt(7, 11),
            hall -> hall.rowOf(7, 0),
            hall -> hall.inserted(7, 0, 0),
            hall -> hall.recorded(7, 0, 0),
            hall -> hall.areAlike(6, 7),
            hall -> hall.count(7, 'l'),
            hall -> hall.isHighest(7),
            hall -> hall.orbit(7, 200),
            Tableauhall::checksum,
            Tableauhall::highestShare,
            Tableauhall::meanSize,
            Tableauhall::isSound,
        };
    }

    private static void sameQuestion() {
        for (Portrait.Question question : questions()) {
            Tableauhall hall = Samples.fullHall();
            Object due = question.ask(Samples.fullHall());
            for (int call = CALLS_OF_FULL_HALL + 1; call <= CALLS; call++) {
                Check.same("call " + call, question.ask(hall), due);
            }
        }
    }

    private static void allQuestionsInTurn() {
        Portrait.Question[] questions = questions();
        Tableauhall hall = Samples.fullHall();
        for (int call = CALLS_OF_FULL_HALL + 1; call <= CALLS; call++) {
            Portrait.Question question = questions[call * 7 % questions.length];
            Check.same("call " + call + " in turn", question.ask(hall), question.ask(Samples.fullHall()));
        }
    }

    /** Refused calls are calls too; they leave room for the shapes and words that come at the end. */
    private static void refusedCalls() {
        Tableauhall hall = new Tableauhall();
        for (int call = 1; call <= CALLS - 14; call++) {
            int kind = call % 4;
            Check.refuses("call " + call, kind == 0 ? Check.BAD_ARGUMENT : kind == 3 ? Check.BAD_SUM : Check.NO_INDEX,
                () -> kind == 0 ? hall.shape(9) : kind == 1 ? hall.append(0, 1) : kind == 2 ? hall.size(0)
                    : (Object) hall.meanSize());
        }
        for (int number = 0; number < 12; number++) {
            Check.same("shape at the end", hall.shape(53211), number);
        }
        Check.same("word at the end", hall.word(), 0);
        Check.same("call 512", hall.tableauxAnew(11), 7700L);
    }

    private static void walksThereAndBack() {
        Tableauhall hall = new Tableauhall();
        int[] letters = {3, 8, 8, 1, 8, 2, 5, 9, 8, 8, 1, 8};
        Samples.put(hall, letters);
        for (int call = 14; call <= 14 + 482; call += 2) {
            Check.same("down by call " + call, hall.down(0, 8), true);
            Check.same("up by call " + (call + 1), hall.up(0, 8), true);
        }
        Check.same("letters", Arrays.toString(Samples.letters(hall, 0, 12)), Arrays.toString(letters));
        Check.same("isSound at the end", hall.isSound(), true);
    }
}
