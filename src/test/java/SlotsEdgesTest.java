/** The edges of promises 28 and 29. Each test is headed by the words of the document that it holds. */
public final class SlotsEdgesTest {
    private static final Check check = new Check();

    /** 0 holds in GAPS 3 and 4 alone, 1 in GAPS 1 and 2 alone. */
    private static final String CASE = "MCc13e0Ca0cc3";

    public static void main(String[] args) {
        slots();
        noneWereKept();
        unknownAhead();
        keptEverywhere();
        howManyAreBroken();
        noActs();
        keptOverAgain();
        eachForItself();
        goneByOpening();
        notGoneByARefusal();
        check.end("SlotsEdgesTest");
    }

    /** "SLOTS 0 .. 1", "UNKNOWN" */
    private static void slots() {
        SkippedDay x = Check.opened(CASE);
        check.due("28: below", x.keep(-1), Check.UNKNOWN);
        check.due("28: the first", x.keep(0), 2);
        check.due("28: the last", x.keep(1), 2);
        check.due("28: behind", x.keep(2), Check.UNKNOWN);
        check.due("29: below", x.again(-1), Check.UNKNOWN);
        check.due("29: the first", x.again(0), 2);
        check.due("29: the last", x.again(1), 2);
        check.due("29: behind", x.again(2), Check.UNKNOWN);
    }

    /** "LATE: none were kept" */
    private static void noneWereKept() {
        for (int slot = 0; slot <= 1; slot++) {
            SkippedDay x = Check.opened(CASE);
            x.put(3);
            check.due("29: at first", x.again(slot), Check.LATE);
            check.due("29: the act stays", x.about(7), 1);
            x.keep(1 - slot);
            check.due("29: only the other one", x.again(slot), Check.LATE);
            check.due("29: the act stays yet", x.undo(), 0);
            x.keep(slot);
            check.due("29: this one as well", x.again(slot), 2);
        }
    }

    /** "UNKNOWN; LATE": a slot that there is not is unknown, whether or not anything was kept. */
    private static void unknownAhead() {
        SkippedDay x = new SkippedDay();
        int[] none = {-1, 2, 32, 33, Integer.MIN_VALUE, Integer.MAX_VALUE};
        for (int slot : none) {
            check.due("29: again(" + slot + ")", x.again(slot), Check.UNKNOWN);
            check.due("28: keep(" + slot + ")", x.keep(slot), Check.UNKNOWN);
            check.due("29: again(" + slot + ") then", x.again(slot), Check.UNKNOWN);
        }
        check.due("29: none were kept in 0", x.again(0), Check.LATE);
        check.due("29: none were kept in 1", x.again(1), Check.LATE);
    }

    /** "SLOTS ... keep where the day is": in each GAP, and nowhere */
    private static void keptEverywhere() {
        for (int place = 0; place <= 13; place++) {
            SkippedDay x = new SkippedDay();
            x.put(place);
            check.due("28: without a case none is broken", x.keep(1), 0);
            x.put((place + 5) % 14);
            check.due("29: without a case none is broken", x.again(1), 0);
            check.due("29: there again", x.about(4), place == Check.NOWHERE ? Check.NONE : place);
            check.due("29: it is so already", x.put(place), Check.LATE);
        }
    }

    /** "how many are BROKEN": none up to all, without those that are VOID */
    private static void howManyAreBroken() {
        SkippedDay x = Check.opened("M" + "Cb0ba5".repeat(5));
        for (int voided = 0; voided < 5; voided++) {
            check.due("28: but for " + voided, x.keep(0), 5 - voided);
            check.due("29: but for " + voided, x.again(0), 5 - voided);
            x.turnVoid(voided);
        }
        check.due("28: all are void", x.keep(0), 0);
        check.due("29: all are void", x.again(0), 0);
        check.due("29: void still", x.about(5), 31);
    }

    /** "(no ACTS when one goes on)": however many there were when they were kept, and then */
    private static void noActs() {
        SkippedDay x = Check.opened(CASE);
        for (int act = 0; act < 14; act++) {
            x.put(act % 13);
        }
        x.keep(0);
        check.due("28: keeping is no act", x.about(7), 14);
        check.due("29: in gap 0", x.again(0), 2);
        check.due("29: none is left", x.about(7), 0);
        check.due("29: none can be undone", x.undo(), Check.LATE);
        check.due("29: in gap 0 yet", x.about(4), 0);
        x.put(6);
        x.turnVoid(0);
        x.again(0);
        check.due("29: none is left again", x.undo(), Check.LATE);
        for (int act = 1; act <= 14; act++) {
            x.turnVoid(1);
            check.due("29: there is room for all", x.about(7), act);
        }
    }

    /** What is kept in a SLOT in which something was kept takes its place. */
    private static void keptOverAgain() {
        SkippedDay x = Check.opened(CASE);
        x.put(3);
        x.keep(0);
        x.turnVoid(1);
        x.readOtherwise(0);
        x.put(13);
        check.due("28: over it", x.keep(0), 0);
        x.put(1);
        x.turnVoid(0);
        check.due("29: the later ones", x.again(0), 0);
        check.due("29: nowhere", x.about(4), Check.NONE);
        check.due("29: the one is void", x.about(5), 2);
        check.due("29: by name", x.contract(0, 1), 0);
        check.due("29: as often as one likes", x.again(0), 0);
    }

    /** Each SLOT keeps for itself, and what is done then is done to neither. */
    private static void eachForItself() {
        SkippedDay x = Check.opened(CASE);
        x.keep(0);
        x.put(3);
        x.turnVoid(0);
        x.readOtherwise(0);
        x.keep(1);
        x.turnVoid(1);
        x.again(0);
        check.due("29: nowhere", x.about(4), Check.NONE);
        check.due("29: none is void", x.about(5), 0);
        check.due("29: by count", x.contract(0, 1), 1);
        x.turnVoid(1);
        x.put(7);
        x.again(1);
        check.due("29: in gap 3", x.about(4), 3);
        check.due("29: the one is void", x.about(5), 1);
        check.due("29: by name", x.contract(0, 1), 0);
        x.readOtherwise(0);
        x.again(0);
        check.due("29: none is void still", x.about(5), 0);
        check.due("29: by count still", x.contract(0, 1), 1);
    }

    /** Promise 5: "what was kept is gone" */
    private static void goneByOpening() {
        SkippedDay x = Check.opened(CASE);
        x.keep(0);
        x.keep(1);
        x.open();
        check.due("29: gone from 0", x.again(0), Check.LATE);
        check.due("29: gone from 1", x.again(1), Check.LATE);
        check.due("28: kept anew", x.keep(1), 2);
        check.due("29: just there", x.again(0), Check.LATE);
        check.due("29: there", x.again(1), 2);
    }

    /** "What is refused changes nothing": a text with a FAULT is not opened, and what was kept is there. */
    private static void notGoneByARefusal() {
        SkippedDay x = Check.opened(CASE);
        x.put(3);
        x.keep(0);
        x.put(4);
        x.write('X');
        check.due("5: a fault", x.open(), Check.LATE);
        check.due("29: there yet", x.again(0), 1);
        check.due("29: in gap 3", x.about(4), 3);
        x.wipe();
        check.due("29: wiping the text is no opening", x.again(0), 1);
    }
}
