import java.util.function.ToLongFunction;

/**
 * "REFUSALS: UNKNOWN ..., BAD ..., LATE ..., FULL .... Of several what is told first. What is refused changes nothing."
 * Each refused call is made on objects that stand differently; all that can be learnt of such an object then is held
 * against what is learnt of one made alike that refused nothing.
 */
public final class RefusalTest {
    private static final Check check = new Check();

    private static final int LEAST = Integer.MIN_VALUE, GREATEST = Integer.MAX_VALUE;

    public static void main(String[] args) {
        write();
        open();
        about();
        contract();
        put();
        turnVoid();
        readOtherwise();
        undo();
        broken();
        best();
        see();
        seeFull();
        meant();
        ofAge();
        agree();
        net();
        strike();
        rule();
        slips();
        years();
        slots();
        check.end("RefusalTest");
    }

    private static final Stand FRESH = Stand.fresh(), SOME = Stand.some(), FULL = Stand.full();
    private static final Stand[] ALL = {FRESH, SOME, FULL};

    private static void refused(Stand stand, String call, int want, ToLongFunction<SkippedDay> calling) {
        SkippedDay x = stand.make();
        check.due(call + " of " + stand.name, calling.applyAsLong(x), want);
        check.same(call + " changes nothing of " + stand.name, Stand.learnt(x), stand.untouched);
    }

    private static void refusedByAll(String call, int want, ToLongFunction<SkippedDay> calling) {
        for (Stand stand : ALL) {
            refused(stand, call, want, calling);
        }
    }

    /** The first numbers beyond at each end, far ones, and such as a shift or a cast would bring back among the others. */
    private static int[] beyond(int least, int greatest) {
        return new int[] {least - 1, greatest + 1, Check.NONE, greatest + 256, greatest + 65536, least - 256, LEAST,
            LEAST + least, GREATEST};
    }

    private static int[] beyondCount(int count) {
        return new int[] {-1, count, Math.max(count, 32), 256, LEAST, GREATEST};
    }

    // ---- the case

    /** "BAD; FULL: there are 64" */
    private static void write() {
        for (int letter : beyond(0, 255)) {
            refusedByAll("2: write(" + letter + ")", Check.BAD, x -> x.write(letter));
        }
        for (int letter : new int[] {0, 'M', 255}) {
            refused(FULL, "2: write(" + letter + ")", Check.FULL, x -> x.write(letter));
        }
    }

    /** "LATE: a FAULT" */
    private static void open() {
        refused(FRESH, "5: open()", Check.LATE, SkippedDay::open);
        refused(SOME, "5: open()", Check.LATE, SkippedDay::open);
        // what could be read of such a text ahead of its fault is not the case's either
        String[] texts = {"", "X", "MCl0ll9Ca0bb0Ca0bb0Bc3Bd4X", "MT30T40O322Ba", "MBa0Ba0Ba0Ba0", "MO019O01"};
        for (String text : texts) {
            Stand stand = FULL.then("the text " + text, x -> Check.write(x, text));
            refused(stand, "5: open()", Check.LATE, SkippedDay::open);
        }
    }

    /** "BAD" of what = 0 .. 9 */
    private static void about() {
        for (int what : beyond(0, 9)) {
            refusedByAll("6: about(" + what + ")", Check.BAD, x -> x.about(what));
        }
    }

    /** "UNKNOWN; BAD", what being 0 .. 6 */
    private static void contract() {
        for (Stand stand : ALL) {
            for (int contract : beyondCount(stand.contracts)) {
                refused(stand, "7: contract(" + contract + ", 0)", Check.UNKNOWN, x -> x.contract(contract, 0));
                refused(stand, "7: contract(" + contract + ", 7)", Check.UNKNOWN, x -> x.contract(contract, 7));
                refused(stand, "7: contract(" + contract + ", -1)", Check.UNKNOWN, x -> x.contract(contract, -1));
            }
        }
        for (int what : beyond(0, 6)) {
            refused(SOME, "7: contract(1, " + what + ")", Check.BAD, x -> x.contract(1, what));
            refused(FULL, "7: contract(4, " + what + ")", Check.BAD, x -> x.contract(4, what));
        }
    }

    // ---- acts

    /** "BAD: gap (0 .. 12, 13: nowhere); LATE: it is so" */
    private static void put() {
        for (int gap : beyond(0, 13)) {
            refusedByAll("8: put(" + gap + ")", Check.BAD, x -> x.put(gap));
        }
        refused(FRESH, "8: put(13)", Check.LATE, x -> x.put(13));
        refused(SOME, "8: put(4)", Check.LATE, x -> x.put(4));
        refused(FULL, "8: put(12)", Check.LATE, x -> x.put(12));
    }

    /** "UNKNOWN" */
    private static void turnVoid() {
        for (Stand stand : ALL) {
            for (int contract : beyondCount(stand.contracts)) {
                refused(stand, "9: turnVoid(" + contract + ")", Check.UNKNOWN, x -> x.turnVoid(contract));
            }
        }
    }

    /** "UNKNOWN; LATE: it is by NAME, and its DAY is 10 or 11" */
    private static void readOtherwise() {
        for (Stand stand : ALL) {
            for (int contract : beyondCount(stand.contracts)) {
                refused(stand, "10: readOtherwise(" + contract + ")", Check.UNKNOWN, x -> x.readOtherwise(contract));
            }
        }
        refused(SOME, "10: readOtherwise(1)", Check.LATE, x -> x.readOtherwise(1));
        refused(FULL, "10: readOtherwise(2)", Check.LATE, x -> x.readOtherwise(2));
        refused(FULL, "10: readOtherwise(3)", Check.LATE, x -> x.readOtherwise(3));
    }

    /** "LATE: there is none" */
    private static void undo() {
        refused(FRESH, "11: undo()", Check.LATE, SkippedDay::undo);
        refused(FULL.then("no acts", x -> x.again(0)), "11: undo()", Check.LATE, SkippedDay::undo);
    }

    // ---- where

    /** "BAD: gap (0 .. 13)" */
    private static void broken() {
        for (int gap : beyond(0, 13)) {
            refusedByAll("12: broken(" + gap + ")", Check.BAD, x -> x.broken(gap));
        }
    }

    /** "BAD: those (bits of CONTRACTS that there are), what" */
    private static void best() {
        for (Stand stand : ALL) {
            int first = 1 << stand.contracts;
            for (int those : new int[] {-1, first, 2 * first - 1, first + 256, 1 << 30, LEAST, LEAST + 1, GREATEST}) {
                refused(stand, "13: best(" + those + ", 0)", Check.BAD, x -> x.best(those, 0));
                refused(stand, "13: best(" + those + ", 1)", Check.BAD, x -> x.best(those, 1));
                refused(stand, "13: best(" + those + ", 2)", Check.BAD, x -> x.best(those, 2));
            }
        }
        for (int what : beyond(0, 1)) {
            refusedByAll("13: best(0, " + what + ")", Check.BAD, x -> x.best(0, what));
        }
        // where the answer would be NONE
        refused(FULL, "13: best(31, 2)", Check.BAD, x -> x.best(31, 2));
    }

    // ---- read, of age

    /** "UNKNOWN; BAD: d (0 .. 11)" */
    private static void see() {
        for (Stand stand : ALL) {
            for (int contract : beyondCount(stand.contracts)) {
                refused(stand, "16: see(" + contract + ", 0)", Check.UNKNOWN, x -> x.see(contract, 0));
                refused(stand, "16: see(" + contract + ", 12)", Check.UNKNOWN, x -> x.see(contract, 12));
                refused(stand, "16: see(" + contract + ", -1)", Check.UNKNOWN, x -> x.see(contract, -1));
            }
        }
        for (int day : beyond(0, 11)) {
            refused(SOME, "16: see(0, " + day + ")", Check.BAD, x -> x.see(0, day));
            refused(FULL, "16: see(0, " + day + ")", Check.BAD, x -> x.see(0, day));
        }
    }

    /** "FULL: 6" */
    private static void seeFull() {
        for (int contract = 0; contract < 5; contract++) {
            int one = contract;
            for (int day = 0; day < 12; day++) {
                int some = day;
                refused(FULL, "16: see(" + one + ", " + some + ")", Check.FULL, x -> x.see(one, some));
            }
        }
    }

    /** "UNKNOWN" */
    private static void meant() {
        for (Stand stand : ALL) {
            for (int contract : beyondCount(stand.contracts)) {
                refused(stand, "18: meant(" + contract + ")", Check.UNKNOWN, x -> x.meant(contract));
            }
        }
    }

    /** "UNKNOWN; BAD: gap (0 .. 13)" */
    private static void ofAge() {
        for (Stand stand : ALL) {
            for (int birth : beyondCount(stand.births)) {
                refused(stand, "19: ofAge(" + birth + ", 0)", Check.UNKNOWN, x -> x.ofAge(birth, 0));
                refused(stand, "19: ofAge(" + birth + ", 14)", Check.UNKNOWN, x -> x.ofAge(birth, 14));
                refused(stand, "19: ofAge(" + birth + ", -1)", Check.UNKNOWN, x -> x.ofAge(birth, -1));
            }
        }
        for (int gap : beyond(0, 13)) {
            refused(SOME, "19: ofAge(0, " + gap + ")", Check.BAD, x -> x.ofAge(0, gap));
            refused(FULL, "19: ofAge(2, " + gap + ")", Check.BAD, x -> x.ofAge(2, gap));
        }
    }

    /** "BAD: d, gap" */
    private static void agree() {
        for (int day : beyond(0, 11)) {
            refusedByAll("20: agree(" + day + ", 13)", Check.BAD, x -> x.agree(day, 13));
            refusedByAll("20: agree(" + day + ", 14)", Check.BAD, x -> x.agree(day, 14));
        }
        for (int gap : beyond(0, 13)) {
            refusedByAll("20: agree(11, " + gap + ")", Check.BAD, x -> x.agree(11, gap));
        }
    }

    // ---- debts, sides

    /** "UNKNOWN: party (0 .. 3)" */
    private static void net() {
        for (int party : beyond(0, 3)) {
            refusedByAll("21: net(" + party + ")", Check.UNKNOWN, x -> x.net(party));
        }
    }

    /** "BAD: set, a, b, what" */
    private static void strike() {
        int[] sets = {0, 1, 4096, 127, 8191, 8192, 8192 + 1, 8192 + 3, 3 + (1 << 30), -1, LEAST, LEAST + 3, GREATEST};
        for (int set : sets) {
            refusedByAll("23: strike(" + set + ", 0, 0, 0)", Check.BAD, x -> x.strike(set, 0, 0, 0));
            refusedByAll("23: strike(" + set + ", 0, 0, 1)", Check.BAD, x -> x.strike(set, 0, 0, 1));
        }
        for (int gap : beyond(0, 12)) {
            refusedByAll("23: strike(3, " + gap + ", 0, 0)", Check.BAD, x -> x.strike(3, gap, 0, 0));
            refusedByAll("23: strike(3, 0, " + gap + ", 0)", Check.BAD, x -> x.strike(3, 0, gap, 0));
        }
        for (int what : beyond(0, 1)) {
            refusedByAll("23: strike(3, 0, 0, " + what + ")", Check.BAD, x -> x.strike(3, 0, 0, what));
        }
    }

    // ---- rules, chances

    /** "BAD: n, years (bits of n), what" */
    private static void rule() {
        for (int n : beyond(1, 10)) {
            refusedByAll("24: rule(" + n + ", 0, 0)", Check.BAD, x -> x.rule(n, 0, 0));
            refusedByAll("24: rule(" + n + ", 1, 1)", Check.BAD, x -> x.rule(n, 1, 1));
        }
        for (int years : new int[] {-1, 8, 9, 15, 1 << 30, LEAST, LEAST + 1, GREATEST}) {
            refusedByAll("24: rule(3, " + years + ", 0)", Check.BAD, x -> x.rule(3, years, 0));
        }
        for (int what : beyond(0, 1)) {
            refusedByAll("24: rule(3, 1, " + what + ")", Check.BAD, x -> x.rule(3, 1, what));
            refusedByAll("24: rule(3, 0, " + what + ")", Check.BAD, x -> x.rule(3, 0, what));
            refusedByAll("24: rule(3, 3, " + what + ")", Check.BAD, x -> x.rule(3, 3, what));
        }
    }

    /** "BAD: n, k, x" */
    private static void slips() {
        for (int n : beyond(1, 6)) {
            refusedByAll("25: slips(" + n + ", 0, 0, true)", Check.BAD, x -> x.slips(n, 0, 0, true));
            refusedByAll("25: slips(" + n + ", 0, 5, false)", Check.BAD, x -> x.slips(n, 0, 5, false));
        }
        for (int k : beyond(0, 4)) {
            refusedByAll("25: slips(4, " + k + ", 0, true)", Check.BAD, x -> x.slips(4, k, 0, true));
            refusedByAll("25: slips(4, " + k + ", 5, false)", Check.BAD, x -> x.slips(4, k, 5, false));
        }
        for (int tenths : beyond(0, 10)) {
            refusedByAll("25: slips(4, 2, " + tenths + ", true)", Check.BAD, x -> x.slips(4, 2, tenths, true));
            refusedByAll("25: slips(4, 0, " + tenths + ", false)", Check.BAD, x -> x.slips(4, 0, tenths, false));
        }
    }

    /** "BAD: m" */
    private static void years() {
        for (int m : beyond(1, 40)) {
            refusedByAll("27: years(" + m + ")", Check.BAD, x -> x.years(m));
        }
    }

    // ---- slots

    /** "UNKNOWN", and "UNKNOWN; LATE: none were kept" */
    private static void slots() {
        for (int slot : beyondCount(2)) {
            refusedByAll("28: keep(" + slot + ")", Check.UNKNOWN, x -> x.keep(slot));
            refusedByAll("29: again(" + slot + ")", Check.UNKNOWN, x -> x.again(slot));
        }
        refused(FRESH, "29: again(0)", Check.LATE, x -> x.again(0));
        refused(FRESH, "29: again(1)", Check.LATE, x -> x.again(1));
        refused(SOME, "29: again(0)", Check.LATE, x -> x.again(0));
        refused(FULL, "29: again(1)", Check.LATE, x -> x.again(1));
    }
}
