/** Promises 12 to 15: what is broken where, where best, who quarrels, whom to drop. */
public final class WhereTest {
    private static final Check check = new Check();

    /** 0 holds with the day in GAPS 3 and 4 alone, 1 in GAPS 1 and 2 alone, 2 everywhere. */
    private static final String QUARREL = "MCc13e0Ca0cc3Ca0ll0";

    public static void main(String[] args) {
        broken();
        brokenByEnds();
        best();
        bestOfVoid();
        quarrel();
        noQuarrel();
        drop();
        dropOfLikeOnes();
        check.end("WhereTest");
    }

    private static void broken() {
        SkippedDay x = Check.opened(QUARREL);
        int[] want = {3, 1, 1, 2, 2, 3, 3, 3, 3, 3, 3, 3, 3, 3};
        for (int gap = 0; gap < want.length; gap++) {
            check.due("12: broken(" + gap + ")", x.broken(gap), want[gap]);
        }
        check.due("12: nothing is put", x.about(4), Check.NONE);
        x.put(3);
        for (int gap = 0; gap < want.length; gap++) {
            check.due("12: broken(" + gap + ") wherever it is", x.broken(gap), want[gap]);
        }
        x.turnVoid(0);
        for (int gap = 0; gap < want.length; gap++) {
            check.due("12: broken(" + gap + ") without 0", x.broken(gap), want[gap] & 2);
        }
        // by name it ends on DAY 3, ahead of DAY 4, wherever the day is
        x.turnVoid(0);
        x.readOtherwise(0);
        for (int gap = 0; gap < want.length; gap++) {
            check.due("12: broken(" + gap + ") by name", x.broken(gap), want[gap] & 2);
        }
    }

    private static void brokenByEnds() {
        // ends on the very day; a day later than it; behind all; lasts just enough; ends ahead of its beginning
        SkippedDay x = Check.opened("MCb13e3Cb14e0Cl11l0Cb14l4Cd0bl0");
        check.due("12: nowhere", x.broken(13), 2 + 4 + 16);
        check.due("12: in gap 3", x.broken(3), 4 + 16);
        check.due("12: in gap 12", x.broken(12), 2 + 4 + 16);
    }

    private static void best() {
        SkippedDay x = Check.opened(QUARREL);
        check.best(x, 0, 1, 1);
        check.best(x, 1, 3, 1);
        check.best(x, 2, 1, 1);
        check.best(x, 3, Check.NONE, Check.NONE);
        check.best(x, 4, 1, 1);
        check.best(x, 5, 3, 1);
        check.best(x, 7, Check.NONE, Check.NONE);
        // that a told one holds comes ahead of how many are broken
        x = Check.opened("MCc13e0Ca0cc3Ca0cc3");
        check.best(x, 0, 1, 1);
        check.best(x, 1, 3, 2);
        check.best(x, 6, 1, 1);
        check.best(Check.opened("MCb0ba5"), 0, 0, 1);
        check.best(Check.opened("MCb0ba5"), 1, Check.NONE, Check.NONE);
        check.best(Check.opened("MCa0aa0"), 1, 0, 0);
        check.best(new SkippedDay(), 0, 0, 0);
    }

    private static void bestOfVoid() {
        SkippedDay x = Check.opened(QUARREL);
        x.turnVoid(1);
        check.best(x, 3, 3, 0);
        check.best(x, 0, 3, 0);
        x.turnVoid(0);
        check.best(x, 3, 0, 0);
    }

    private static void quarrel() {
        SkippedDay x = Check.opened(QUARREL);
        check.due("14: 0 and 1", x.quarrel(), 1);
        x.put(3);
        check.due("14: wherever it is", x.quarrel(), 1);
        // 0 holds nowhere by itself, 1 and 3 quarrel with 2 and 4
        x = Check.opened("MCb0ba5Cc13e0Ca0cc3Cc13e0Ca0cc3");
        check.due("14: 1 and 2", x.quarrel(), 12);
        x.turnVoid(2);
        check.due("14: 1 and 4", x.quarrel(), 14);
        x.turnVoid(1);
        check.due("14: 3 and 4", x.quarrel(), 34);
        x.turnVoid(2);
        check.due("14: 2 and 3", x.quarrel(), 23);
    }

    private static void noQuarrel() {
        check.due("14: of nothing", new SkippedDay().quarrel(), Check.NONE);
        check.due("14: one alone", Check.opened("MCc13e0").quarrel(), Check.NONE);
        check.due("14: one holds nowhere", Check.opened("MCc13e0Cb0ba5").quarrel(), Check.NONE);
        // one holds in GAPS 1 and 2, the other in GAP 2 and 3
        check.due("14: both hold in GAP 2", Check.opened("MCa0cc3Cb0dd3").quarrel(), Check.NONE);
        check.due("14: both hold nowhere", Check.opened("MCa0cc2Cb0dd2").quarrel(), Check.NONE);
        SkippedDay x = Check.opened(QUARREL);
        x.turnVoid(0);
        check.due("14: one is void", x.quarrel(), Check.NONE);
        x.turnVoid(0);
        x.readOtherwise(0);
        check.due("14: one is read otherwise", x.quarrel(), Check.NONE);
    }

    private static void drop() {
        check.due("15: of nothing", new SkippedDay().drop(), 0);
        check.due("15: all hold", Check.opened("MCa0aa0").drop(), 0);
        check.due("15: one that never holds", Check.opened("MCa0aa0Cb0ba5").drop(), 2);
        check.due("15: all hold in one GAP", Check.opened("MCa0cc3Cb0dd3").drop(), 0);
        check.due("15: the lesser one", Check.opened(QUARREL).drop(), 1);
        check.due("15: two against one", Check.opened("MCc13e0Ca0cc3Cc13e0").drop(), 2);
        check.due("15: one against two", Check.opened("MCc13e0Ca0cc3Ca0cc3").drop(), 1);
        SkippedDay x = Check.opened("MCc13e0Ca0cc3Cc13e0");
        x.turnVoid(1);
        check.due("15: a void one does not count", x.drop(), 0);
        x.turnVoid(1);
        x.turnVoid(2);
        check.due("15: of the others", x.drop(), 1);
    }

    private static void dropOfLikeOnes() {
        // {1, 2} and {0, 3} would both do: as bits 6 and 9
        check.due("15: of like ones", Check.opened("MCc13e0Ca0cc3Ca0cc3Cc13e0").drop(), 6);
        check.due("15: of like ones, turned", Check.opened("MCa0cc3Cc13e0Cc13e0Ca0cc3").drop(), 6);
    }
}
