/** Promises 8 to 11: the acts, and their undoing. */
public final class ActsTest {
    private static final Check check = new Check();

    public static void main(String[] args) {
        put();
        turnVoid();
        readOtherwise();
        undo();
        undoOfEach();
        firstIsForgotten();
        check.end("ActsTest");
    }

    private static void put() {
        SkippedDay x = new SkippedDay();
        check.due("8: from nowhere", x.put(0), Check.NONE);
        check.due("8: from 0", x.put(12), 0);
        check.due("8: from 12", x.put(13), 12);
        check.due("8: nowhere", x.about(4), Check.NONE);
        check.due("8: from nowhere again", x.put(7), Check.NONE);
        check.due("8: acts", x.about(7), 4);
    }

    private static void turnVoid() {
        SkippedDay x = Check.opened("MCb0ba5Cb0ba5Cb0ba5Cb0ba5Cb0ba5");
        check.due("9: all are broken", x.about(6), 31);
        check.due("9: void", x.turnVoid(4), 1);
        check.due("9: void too", x.turnVoid(0), 1);
        check.due("9: bits", x.about(5), 17);
        check.due("9: others are broken", x.about(6), 14);
        check.due("9: counts again", x.turnVoid(4), 0);
        check.due("9: bits then", x.about(5), 1);
        check.due("9: broken then", x.about(6), 30);
        check.due("9: acts", x.about(7), 3);
    }

    private static void readOtherwise() {
        SkippedDay x = Check.opened("MCc13l0Cc0jl0");
        check.due("10: by name", x.readOtherwise(0), 0);
        check.due("10: v is the same", x.contract(0, 2), 3);
        check.due("10: ends on its day", x.contract(0, 6), 3);
        check.due("10: by count", x.readOtherwise(1), 1);
        check.due("10: day 9 is 9 days", x.contract(1, 6), 11);
        check.due("10: by count again", x.readOtherwise(0), 1);
        check.due("10: ends as told", x.contract(0, 6), 5);
        check.due("10: by name again", x.readOtherwise(1), 0);
        x.turnVoid(0);
        check.due("10: a void one is read too", x.readOtherwise(0), 0);
        check.due("10: acts", x.about(7), 6);
    }

    private static void undo() {
        SkippedDay x = new SkippedDay();
        check.due("11: none", x.undo(), Check.LATE);
        x.put(3);
        x.put(5);
        x.put(13);
        check.due("11: two are left", x.undo(), 2);
        check.due("11: where it was", x.about(4), 5);
        check.due("11: one is left", x.undo(), 1);
        check.due("11: where it was before", x.about(4), 3);
        x.put(8);
        check.due("11: put anew", x.about(7), 2);
        check.due("11: one is left again", x.undo(), 1);
        check.due("11: none is left", x.undo(), 0);
        check.due("11: nowhere", x.about(4), Check.NONE);
        check.due("11: none then", x.undo(), Check.LATE);
    }

    /** Where the day is, what is VOID, and how the three contracts are READ. */
    private static String standing(SkippedDay x) {
        StringBuilder row = new StringBuilder();
        row.append(x.about(4)).append(' ').append(x.about(5));
        for (int contract = 0; contract < 3; contract++) {
            row.append(' ').append(x.contract(contract, 1)).append(' ').append(x.contract(contract, 6));
        }
        return row.toString();
    }

    private static void undoOfEach() {
        SkippedDay x = Check.opened("MCc13l0Cc0jl0Cc0jl0");
        String first = standing(x);
        x.turnVoid(1);
        String second = standing(x);
        x.readOtherwise(0);
        String third = standing(x);
        x.put(6);
        String fourth = standing(x);
        x.readOtherwise(2);
        String fifth = standing(x);
        x.turnVoid(1);
        check.due("11: of a void one", x.undo(), 4);
        check.same("11: void again", standing(x), fifth);
        check.due("11: of a reading by count", x.undo(), 3);
        check.same("11: by name again", standing(x), fourth);
        check.due("11: of a put", x.undo(), 2);
        check.same("11: where it was", standing(x), third);
        check.due("11: of a reading by name", x.undo(), 1);
        check.same("11: by count again", standing(x), second);
        check.due("11: of a voided one", x.undo(), 0);
        check.same("11: as at first", standing(x), first);
        x.see(0, 1);
        x.seed(4);
        check.due("11: neither what is seen nor the seed is an act", x.undo(), Check.LATE);
    }

    private static void firstIsForgotten() {
        SkippedDay x = Check.opened("MCc13l0");
        for (int gap = 0; gap < 13; gap++) {
            x.put(gap);
        }
        check.due("11: thirteen", x.about(7), 13);
        x.turnVoid(0);
        check.due("11: fourteen", x.about(7), 14);
        x.readOtherwise(0);
        check.due("11: fourteen still", x.about(7), 14);
        x.put(3);
        check.due("11: fourteen yet", x.about(7), 14);
        int left = 13;
        while (left >= 0) {
            check.due("11: left", x.undo(), left);
            left--;
        }
        check.due("11: all are undone", x.undo(), Check.LATE);
        check.due("11: where the forgotten ones left it", x.about(4), 1);
        check.due("11: not void", x.about(5), 0);
        check.due("11: by count", x.contract(0, 1), 1);
    }
}
