/** Promise 23: two sides that strike GAPS by turns. */
public final class StrikeTest {
    private static final Check check = new Check();

    public static void main(String[] args) {
        ofTwo();
        ofThree();
        ofMore();
        check.end("StrikeTest");
    }

    private static void ofTwo() {
        check.struck(Check.set(0, 1), 0, 12, 0, 1);
        check.struck(Check.set(0, 12), 12, 0, 12, 0);
        check.struck(Check.set(11, 12), 12, 12, 12, 11);
        check.struck(Check.set(3, 9), 5, 0, 3, 9);
        check.struck(Check.set(3, 9), 7, 0, 9, 3);
        // both are as near: the lesser one is struck
        check.struck(Check.set(3, 9), 6, 0, 9, 3);
        check.struck(Check.set(0, 2), 1, 1, 2, 0);
    }

    private static void ofThree() {
        // the first one can only see to it that 12 and 4, or 12 and 0, or 0 and 4 are left to the other one
        check.struck(Check.set(0, 4, 12), 0, 12, 4, 12);
        check.struck(Check.set(0, 1, 4), 0, 12, 1, 4);
        check.struck(Check.set(0, 1, 4), 12, 12, 4, 0);
        // of 1 and 5 the other one, at 3, strikes 1; of 1 and 9 he leaves 1, of 5 and 9 he leaves 5
        check.struck(Check.set(1, 5, 9), 1, 3, 1, 5);
        check.struck(Check.set(1, 5, 9), 9, 3, 5, 1);
    }

    private static void ofMore() {
        check.struck(Check.set(0, 3, 6, 9, 12), 3, 9, 6, 9);
        check.struck(Check.set(1, 2, 3, 4, 5, 6), 6, 6, 6, 1);
        check.struck(Check.set(1, 2, 3, 4, 5, 6), 1, 6, 3, 4);
        check.struck(Check.set(0, 1, 2, 3), 3, 0, 2, 0);
        // an object that has settled a greater set settles a lesser one as well
        SkippedDay x = new SkippedDay();
        check.due("23: six", x.strike(126, 1, 6, 0), 3);
        check.due("23: two", x.strike(Check.set(0, 12), 12, 0, 0), 12);
        check.due("23: six again", x.strike(126, 1, 6, 1), 4);
    }
}
