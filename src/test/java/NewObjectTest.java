/** Promise 1: a new object has neither shapes nor words. */
public final class NewObjectTest {
    public static void main(String[] args) {
        Tableauhall hall = new Tableauhall();
        Check.refuses("size of a new object", Check.NO_INDEX, () -> hall.size(0));
        Check.refuses("letterAt of a new object", Check.NO_INDEX, () -> hall.letterAt(0, 0));
        Check.refuses("highestShare of a new object", Check.BAD_SUM, hall::highestShare);
        Check.refuses("meanSize of a new object", Check.BAD_SUM, hall::meanSize);
        Check.same("checksum of a new object", hall.checksum(), 0L);
        Check.same("isSound of a new object", hall.isSound(), true);
        Check.same("first shape", hall.shape(21), 0);
        Check.same("first word", hall.word(), 0);
        Tableauhall other = new Tableauhall();
        Check.refuses("size of another new object", Check.NO_INDEX, () -> other.size(0));
        Check.refuses("rowOf of another new object", Check.NO_INDEX, () -> other.rowOf(0, 0));
        Check.end("NewObjectTest");
    }
}
