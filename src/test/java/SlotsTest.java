/** Promises 28 and 29: what is kept, and gone on from. */
public final class SlotsTest {
    private static final Check check = new Check();

    /** 0 holds in GAPS 3 and 4 alone, 1 in GAPS 1 and 2 alone. */
    private static final String CASE = "MCc13e0Ca0cc3";

    public static void main(String[] args) {
        keep();
        again();
        twoSlots();
        whatIsNotKept();
        check.end("SlotsTest");
    }

    private static void keep() {
        SkippedDay x = Check.opened(CASE);
        check.due("28: both are broken", x.keep(0), 2);
        x.put(3);
        check.due("28: one is broken", x.keep(1), 1);
        check.due("28: the acts stay", x.about(7), 1);
        x.turnVoid(1);
        check.due("28: none that counts is broken", x.keep(1), 0);
        check.due("28: nothing else changes", x.about(4), 3);
        check.due("28: of nothing", new SkippedDay().keep(0), 0);
    }

    private static void again() {
        SkippedDay x = Check.opened(CASE);
        x.put(3);
        x.turnVoid(1);
        x.readOtherwise(0);
        x.keep(0);
        String kept = Check.all(x);
        x.put(7);
        x.turnVoid(1);
        x.turnVoid(0);
        x.readOtherwise(0);
        x.readOtherwise(1);
        check.due("29: none that counts is broken", x.again(0), 0);
        check.due("29: no acts", x.about(7), 0);
        check.due("29: nothing to undo", x.undo(), Check.LATE);
        check.due("29: where it was", x.about(4), 3);
        check.due("29: what was void", x.about(5), 2);
        check.due("29: how the one is read", x.contract(0, 1), 0);
        check.due("29: how the other is read", x.contract(1, 1), 0);
        x.put(12);
        x.turnVoid(1);
        check.due("29: once more", x.again(0), 0);
        check.due("29: what was kept stays as it was", x.about(4), 3);
        check.due("29: what was void stays as it was", x.about(5), 2);
        check.due("29: but for the acts all is as kept", kept.equals(Check.all(x)) ? 1 : 0, 0);
        x.turnVoid(1);
        check.due("29: an act from there on", x.about(7), 1);
        check.due("29: undone", x.undo(), 0);
    }

    private static void twoSlots() {
        SkippedDay x = Check.opened(CASE);
        x.put(1);
        x.keep(0);
        x.put(3);
        x.keep(1);
        x.put(6);
        check.due("29: slot 0", x.again(0), 1);
        check.due("29: where it was in slot 0", x.about(4), 1);
        check.due("29: slot 1", x.again(1), 1);
        check.due("29: where it was in slot 1", x.about(4), 3);
        x.put(6);
        check.due("28: kept over it", x.keep(0), 2);
        x.put(1);
        check.due("29: the later one", x.again(0), 2);
        check.due("29: where it was then", x.about(4), 6);
        x = Check.opened(CASE);
        x.keep(1);
        check.due("29: only what was kept", x.again(0), Check.LATE);
        check.due("29: nowhere is kept too", x.put(4), Check.NONE);
        check.due("29: broken nowhere", x.again(1), 2);
        check.due("29: nowhere", x.about(4), Check.NONE);
    }

    private static void whatIsNotKept() {
        SkippedDay x = Check.opened(CASE);
        x.see(0, 1);
        x.seed(3);
        x.keep(0);
        x.see(0, 2);
        x.seed(4);
        x.write('?');
        x.again(0);
        check.due("29: what is seen stays", x.about(8), 2);
        check.due("29: the text stays", x.about(9), 14);
        check.due("29: the seed stays", x.seed(0), 4);
        SkippedDay fresh = new SkippedDay();
        fresh.put(2);
        fresh.keep(1);
        fresh.put(3);
        check.due("29: without a case", fresh.again(1), 0);
        check.due("29: where it was without a case", fresh.about(4), 2);
    }
}
