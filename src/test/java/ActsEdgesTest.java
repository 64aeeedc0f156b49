/** The edges of promises 8 to 11. Each test is headed by the words of the document that it holds. */
public final class ActsEdgesTest {
    private static final Check check = new Check();

    private static final String FIVE = "MCa0aa0Ca0aa0Ca0aa0Ca0aa0Ca0aa0";

    public static void main(String[] args) {
        putWhere();
        putBeyond();
        putSo();
        voidedFirstAndLast();
        readUpToNine();
        readBehindNine();
        readAndBack();
        fourteenAtMost();
        firstOneIsForgotten();
        forgottenOfEachKind();
        lastOneIsUndone();
        nothingToUndo();
        check.end("ActsEdgesTest");
    }

    private static int told(int place) {
        return place == Check.NOWHERE ? Check.NONE : place;
    }

    /** "where it was (NONE: nowhere)", for each two of GAPS 0 .. 12 and nowhere; "LATE: it is so" */
    private static void putWhere() {
        for (int from = 0; from <= 13; from++) {
            for (int to = 0; to <= 13; to++) {
                SkippedDay x = new SkippedDay();
                x.put(from);
                int acts = x.about(7);
                check.due("8: put(" + to + ") from " + from, x.put(to), to == from ? Check.LATE : told(from));
                check.due("8: it is in " + to, x.about(4), told(to));
                check.due("8: acts", x.about(7), to == from ? acts : acts + 1);
            }
        }
    }

    /** "BAD: gap (0 .. 12, 13: nowhere)" */
    private static void putBeyond() {
        SkippedDay x = new SkippedDay();
        check.due("8: below the first gap", x.put(-1), Check.BAD);
        check.due("8: behind nowhere", x.put(14), Check.BAD);
        check.due("8: NONE is no gap", x.put(Check.NONE), Check.BAD);
        check.due("8: the first gap", x.put(0), Check.NONE);
        check.due("8: below the first gap", x.put(-1), Check.BAD);
        check.due("8: the last gap", x.put(12), 0);
        check.due("8: nowhere", x.put(13), 12);
        check.due("8: behind nowhere", x.put(14), Check.BAD);
        check.due("8: three acts", x.about(7), 3);
    }

    /** "LATE: it is so": also when it has come to be so by undoing. */
    private static void putSo() {
        SkippedDay x = new SkippedDay();
        check.due("8: nowhere at first", x.put(13), Check.LATE);
        check.due("8: no act", x.about(7), 0);
        x.put(5);
        check.due("8: in gap 5 already", x.put(5), Check.LATE);
        x.put(6);
        x.undo();
        check.due("8: in gap 5 again", x.put(5), Check.LATE);
        x.undo();
        check.due("8: nowhere again", x.put(13), Check.LATE);
        check.due("8: no act is left", x.undo(), Check.LATE);
    }

    /** "1 if it is VOID then, 0. UNKNOWN" */
    private static void voidedFirstAndLast() {
        SkippedDay x = Check.opened(FIVE);
        for (int contract = 0; contract < 5; contract++) {
            check.due("9: void", x.turnVoid(contract), 1);
            check.due("9: told so", x.about(5), 1 << contract);
            check.due("9: counts again", x.turnVoid(contract), 0);
            check.due("9: told so", x.about(5), 0);
        }
        check.due("9: below the first", x.turnVoid(-1), Check.UNKNOWN);
        check.due("9: behind the last", x.turnVoid(5), Check.UNKNOWN);
        check.due("9: ten acts", x.about(7), 10);
        check.due("9: there is none", new SkippedDay().turnVoid(0), Check.UNKNOWN);
    }

    /** "one by NAME is by COUNT, v being as many days as its DAY is by number (0 .. 9)" */
    private static void readUpToNine() {
        for (int v = 0; v <= 9; v++) {
            SkippedDay x = Check.opened("MCc0" + (char) ('a' + v) + "l0");
            check.due("10: by name ends on DAY " + v, x.contract(0, 6), v);
            check.due("10: by count", x.readOtherwise(0), 1);
            check.due("10: as many days", x.contract(0, 2), v);
            check.due("10: that many days on", x.contract(0, 6), 2 + v);
            check.due("10: an act", x.about(7), 1);
        }
    }

    /** "LATE: it is by NAME, and its DAY is 10 or 11" */
    private static void readBehindNine() {
        for (char letter : new char[] {'k', 'l'}) {
            SkippedDay x = Check.opened("MCc0" + letter + "l0");
            check.due("10: " + letter + " is too late", x.readOtherwise(0), Check.LATE);
            check.due("10: by name still", x.contract(0, 1), 0);
            check.due("10: its day still", x.contract(0, 6), letter - 'a');
            check.due("10: no act", x.about(7), 0);
            x.turnVoid(0);
            check.due("10: void as well", x.readOtherwise(0), Check.LATE);
        }
        // it is v that counts: neither the DAY on which it begins nor the one by which it is to end
        SkippedDay x = Check.opened("MCl0jl0Ck0al0");
        check.due("10: DAY 9 from DAY 11", x.readOtherwise(0), 1);
        check.due("10: DAY 0 from DAY 10", x.readOtherwise(1), 1);
    }

    /** "one by COUNT is by NAME then, v being the DAY of that number", and back */
    private static void readAndBack() {
        for (int v = 0; v <= 9; v++) {
            SkippedDay x = Check.opened("MCc1" + v + "l0");
            check.due("10: by name", x.readOtherwise(0), 0);
            check.due("10: the DAY of that number", x.contract(0, 6), v);
            check.due("10: by count", x.readOtherwise(0), 1);
            check.due("10: as told", x.contract(0, 6), 2 + v);
            check.due("10: two acts", x.about(7), 2);
        }
        SkippedDay x = Check.opened(FIVE);
        check.due("10: the last one", x.readOtherwise(4), 1);
        check.due("10: below the first", x.readOtherwise(-1), Check.UNKNOWN);
        check.due("10: behind the last", x.readOtherwise(5), Check.UNKNOWN);
    }

    /** "ACTS ... are a row (14 at most)", of whichever kinds */
    private static void fourteenAtMost() {
        SkippedDay x = Check.opened(FIVE);
        for (int acts = 1; acts <= 40; acts++) {
            if (acts % 3 == 0) {
                x.put(acts % 13);
            } else if (acts % 3 == 1) {
                x.turnVoid(acts % 5);
            } else {
                x.readOtherwise(acts % 5);
            }
            check.due("11: after " + acts, x.about(7), Math.min(acts, 14));
        }
    }

    /** "when it is full, the first one is forgotten": the last fourteen can be undone, and no more. */
    private static void firstOneIsForgotten() {
        for (int acts = 0; acts <= 44; acts++) {
            SkippedDay x = new SkippedDay();
            for (int act = 0; act < acts; act++) {
                x.put(act % 14);
            }
            int kept = Math.min(acts, 14);
            for (int left = kept - 1; left >= 0; left--) {
                int before = acts - kept + left;
                check.due("11: left of " + acts, x.undo(), left);
                check.due("11: where it was", x.about(4), before == 0 ? Check.NONE : told((before - 1) % 14));
            }
            check.due("11: none is left of " + acts, x.undo(), Check.LATE);
        }
    }

    /** Fourteen puts more, and the act ahead of them is forgotten, of whichever kind it was; thirteen, and it is not. */
    private static void forgottenOfEachKind() {
        for (int puts = 13; puts <= 14; puts++) {
            SkippedDay x = Check.opened("MCc13l0Cc13l0Cc13l0");
            x.turnVoid(1);
            undonePuts(x, puts);
            check.due("11: void still, after " + puts, x.about(5), puts == 13 ? 0 : 2);
            x = Check.opened("MCc13l0Cc13l0Cc13l0");
            x.readOtherwise(2);
            undonePuts(x, puts);
            check.due("11: by name still, after " + puts, x.contract(2, 1), puts == 13 ? 1 : 0);
            x = Check.opened("MCc13l0");
            x.put(9);
            for (int voided = 0; voided < puts; voided++) {
                x.turnVoid(0);
            }
            undoneAll(x);
            check.due("11: there still, after " + puts, x.about(4), puts == 13 ? Check.NONE : 9);
            check.due("11: not void, after " + puts, x.about(5), 0);
        }
    }

    private static void undonePuts(SkippedDay x, int puts) {
        for (int gap = 0; gap < puts; gap++) {
            x.put(gap % 13);
        }
        undoneAll(x);
        check.due("11: nowhere after " + puts, x.about(4), Check.NONE);
    }

    private static void undoneAll(SkippedDay x) {
        for (int left = 13; left >= 0; left--) {
            check.due("11: left", x.undo(), left);
        }
        check.due("11: none is left", x.undo(), Check.LATE);
    }

    /** "the last one can be undone": what is undone is no ACT any more, and what comes then takes its place. */
    private static void lastOneIsUndone() {
        SkippedDay x = Check.opened(FIVE);
        for (int act = 0; act < 14; act++) {
            x.put(act % 13);
        }
        check.due("11: thirteen are left", x.undo(), 13);
        x.turnVoid(4);
        check.due("11: fourteen again", x.about(7), 14);
        check.due("11: the new one is undone", x.undo(), 13);
        check.due("11: not void", x.about(5), 0);
        check.due("11: twelve are left", x.undo(), 12);
        check.due("11: in gap 11", x.about(4), 11);
        for (int left = 11; left >= 0; left--) {
            x.undo();
        }
        check.due("11: none was forgotten", x.about(4), Check.NONE);
    }

    /** "LATE: there is none" */
    private static void nothingToUndo() {
        SkippedDay x = new SkippedDay();
        check.due("11: at first", x.undo(), Check.LATE);
        x.put(0);
        check.due("11: one", x.undo(), 0);
        check.due("11: undone already", x.undo(), Check.LATE);
        x.put(13);
        check.due("11: what is refused is no act", x.undo(), Check.LATE);
        x.put(3);
        Check.write(x, "M");
        x.open();
        check.due("11: none of the former case", x.undo(), Check.LATE);
        check.due("11: and nowhere stays", x.about(4), Check.NONE);
        x.keep(0);
        x.put(3);
        x.again(0);
        check.due("11: none when one goes on", x.undo(), Check.LATE);
    }
}
