/** Promises 8 to 11: the acts, and their undoing. */
public final class ActsTest {
    private static final Check check = new Check();

    public static void main(String[] args) {
        put();
        putRefused();
        turnVoid();
        readOtherwise();
        readOtherwiseLate();
        undo();
        undoOfEach();
        firstIsForgotten();
        check.end("ActsTest");
    }

    private static void put() {
        SkippedDay x = new SkippedDay();
        check.due("8: from nowhere", x.put(0), Check.NONE);
        check.due("8: from 0", x.put(12), 0);
        check.due("8: from 12", x.put(13), 12);
        check.due("8: nowhere", x.about(4), Check.NONE);
        check.due("8: from nowhere again", x.put(7), Check.NONE);
        check.due("8: acts", x.about(7), 4);
    }

    private static void putRefused() {
        SkippedDay x = Check.opened("MCc13f0");
        check.due("8: it is nowhere", x.put(13), Check.LATE);
        x.put(5);
        String before = Check.all(x);
        check.due("8: it is there", x.put(5), Check.LATE);
        int[] gaps = {-1, 14, -9, Integer.MIN_VALUE, Integer.MAX_VALUE};
        for (int gap : gaps) {
            check.due("8: put(" + gap + ")", x.put(gap), Check.BAD);
        }
        check.same("8: nothing changes", Check.all(x), before);
    }

    private static void turnVoid() {
        SkippedDay x = Check.opened("MCb0ba5Cb0ba5Cb0ba5Cb0ba5Cb0ba5");
        check.due("9: all are broken", x.about(6), 31);
        check.due("9: void", x.turnVoid(4), 1);
        check.due("9: void too", x.turnVoid(0), 1);
        check.due("9: bits", x.about(5), 17);
        check.due("9: others are broken", x.about(6), 14);
        check.due("9: counts again", x.turnVoid(4), 0);
        check.due("9: bits then", x.about(5), 1);
        check.due("9: broken then", x.about(6), 30);
        check.due("9: acts", x.about(7), 3);
        String before = Check.all(x);
        int[] others = {-1, 5, 32, Integer.MIN_VALUE, Integer.MAX_VALUE};
        for (int other : others) {
            check.due("9: turnVoid(" + other + ")", x.turnVoid(other), Check.UNKNOWN);
            check.due("10: readOtherwise(" + other + ")", x.readOtherwise(other), Check.UNKNOWN);
        }
        check.same("9, 10: nothing changes", Check.all(x), before);
    }

    private static void readOtherwise() {
        SkippedDay x = Check.opened("MCc13l0Cc0jl0");
        check.due("10: by name", x.readOtherwise(0), 0);
        check.due("10: v is the same", x.contract(0, 2), 3);
        check.due("10: ends on its day", x.contract(0, 6), 3);
        check.due("10: by count", x.readOtherwise(1), 1);
        check.due("10: day 9 is 9 days", x.contract(1, 6), 11);
        check.due("10: by count again", x.readOtherwise(0), 1);
        check.due("10: ends as told", x.contract(0, 6), 5);
        check.due("10: by name again", x.readOtherwise(1), 0);
        x.turnVoid(0);
        check.due("10: a void one is read too", x.readOtherwise(0), 0);
        check.due("10: acts", x.about(7), 6);
    }

    private static void readOtherwiseLate() {
        SkippedDay x = Check.opened("MCc0kl0Cc0ll0Cc19l0");
        String before = Check.all(x);
        check.due("10: day 10", x.readOtherwise(0), Check.LATE);
        check.due("10: day 11", x.readOtherwise(1), Check.LATE);
        check.due("10: unknown", x.readOtherwise(3), Check.UNKNOWN);
        check.same("10: nothing changes", Check.all(x), before);
        check.due("10: 9 days", x.readOtherwise(2), 0);
        check.due("10: 9 days on day 9", x.contract(2, 6), 9);
    }

    private static void undo() {
        SkippedDay x = new SkippedDay();
        check.due("11: none", x.undo(), Check.LATE);
        x.put(3);
        x.put(5);
        x.put(13);
        check.due("11: two are left", x.undo(), 2);
        check.due("11: where it was", x.about(4), 5);
        check.due("11: one is left", x.undo(), 1);
        check.due("11: where it was before", x.about(4), 3);
        x.put(8);
        check.due("11: put anew", x.about(7), 2);
        check.due("11: one is left again", x.undo(), 1);
        check.due("11: none is left", x.undo(), 0);
        check.due("11: nowhere", x.about(4), Check.NONE);
        check.due("11: none then", x.undo(), Check.LATE);
    }

    private static void undoOfEach() {
        SkippedDay x = Check.opened("MCc13l0Cc0jl0Cc0jl0");
        String first = Check.all(x);
        x.turnVoid(1);
        String second = Check.all(x);
        x.readOtherwise(0);
        String third = Check.all(x);
        x.put(6);
        String fourth = Check.all(x);
        x.readOtherwise(2);
        String fifth = Check.all(x);
        x.turnVoid(1);
        check.due("11: of a void one", x.undo(), 4);
        check.same("11: void again", Check.all(x), fifth);
        check.due("11: of a reading by count", x.undo(), 3);
        check.same("11: by name again", Check.all(x), fourth);
        check.due("11: of a put", x.undo(), 2);
        check.same("11: where it was", Check.all(x), third);
        check.due("11: of a reading by name", x.undo(), 1);
        check.same("11: by count again", Check.all(x), second);
        check.due("11: of a voided one", x.undo(), 0);
        check.same("11: as at first", Check.all(x), first);
        x.see(0, 1);
        x.seed(4);
        check.due("11: neither what is seen nor the seed is an act", x.undo(), Check.LATE);
    }

    private static void firstIsForgotten() {
        SkippedDay x = Check.opened("MCc13l0");
        for (int gap = 0; gap < 13; gap++) {
            x.put(gap);
        }
        check.due("11: thirteen", x.about(7), 13);
        x.turnVoid(0);
        check.due("11: fourteen", x.about(7), 14);
        x.readOtherwise(0);
        check.due("11: fourteen still", x.about(7), 14);
        x.put(3);
        check.due("11: fourteen yet", x.about(7), 14);
        int left = 13;
        while (left >= 0) {
            check.due("11: left", x.undo(), left);
            left--;
        }
        check.due("11: all are undone", x.undo(), Check.LATE);
        check.due("11: where the forgotten ones left it", x.about(4), 1);
        check.due("11: not void", x.about(5), 0);
        check.due("11: by count", x.contract(0, 1), 1);
    }
}
