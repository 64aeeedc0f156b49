/** The edges of promise 23. Each test is headed by the words of the document that it holds. */
public final class StrikeEdgesTest {
    private static final Check check = new Check();

    public static void main(String[] args) {
        twoToSix();
        thirteenGaps();
        near();
        what();
        ofTwo();
        likeOnes();
        likeForBoth();
        whoseTurn();
        firstStrikeOfSix();
        nothingIsChanged();
        check.end("StrikeEdgesTest");
    }

    /** "a told set (bits; 2 .. 6 of 13)" */
    private static void twoToSix() {
        SkippedDay x = new SkippedDay();
        for (int bits = 0; bits < 8192; bits++) {
            if (bits % 128 == 0) {
                x = new SkippedDay();
            }
            int count = Integer.bitCount(bits);
            boolean taken = count >= 2 && count <= 6;
            int left = x.strike(bits, 6, 6, 0);
            int first = x.strike(bits, 6, 6, 1);
            if (taken) {
                check.due("23: left of " + bits, left >= 0 && left < 13 && (bits >> left & 1) == 1 ? 1 : 0, 1);
                check.due("23: struck of " + bits, first >= 0 && first < 13 && (bits >> first & 1) == 1 ? 1 : 0, 1);
                check.due("23: not the same of " + bits, left != first ? 1 : 0, 1);
            } else {
                check.due("23: left of " + bits, left, Check.BAD);
                check.due("23: struck of " + bits, first, Check.BAD);
            }
        }
    }

    /** "of 13": a set with a bit behind GAP 12 is none, however many it has. */
    private static void thirteenGaps() {
        check.struck(Check.set(11, 12), 12, 0, 12, 11);
        check.struck(Check.set(0, 12), 0, 0, 0, 12);
        for (int bit = 13; bit <= 31; bit++) {
            check.struck(Check.set(0, 1) | 1 << bit, 0, 0, Check.BAD, Check.BAD);
            check.struck(Check.set(0) | 1 << bit, 0, 0, Check.BAD, Check.BAD);
        }
        check.struck(-1, 0, 0, Check.BAD, Check.BAD);
        check.struck(Integer.MIN_VALUE, 0, 0, Check.BAD, Check.BAD);
        check.struck(Integer.MAX_VALUE, 0, 0, Check.BAD, Check.BAD);
    }

    /** "near GAP a, ... near GAP b (0 .. 12)" */
    private static void near() {
        int set = Check.set(0, 6, 12);
        for (int gap = 0; gap <= 12; gap++) {
            SkippedDay x = new SkippedDay();
            check.due("23: a is " + gap, x.strike(set, gap, 6, 0) >= 0 ? 1 : 0, 1);
            check.due("23: b is " + gap, x.strike(set, 6, gap, 0) >= 0 ? 1 : 0, 1);
        }
        int[] none = {-1, 13, Integer.MIN_VALUE, Integer.MAX_VALUE};
        for (int gap : none) {
            check.struck(set, gap, 6, Check.BAD, Check.BAD);
            check.struck(set, 6, gap, Check.BAD, Check.BAD);
            check.struck(set, gap, gap, Check.BAD, Check.BAD);
        }
    }

    /** "which is left (what = 0), which is struck first (1). BAD" */
    private static void what() {
        SkippedDay x = new SkippedDay();
        check.due("23: below", x.strike(3, 0, 0, -1), Check.BAD);
        check.due("23: left", x.strike(3, 0, 0, 0), 0);
        check.due("23: struck", x.strike(3, 0, 0, 1), 1);
        check.due("23: above", x.strike(3, 0, 0, 2), Check.BAD);
    }

    /** Of two just the first one strikes, and the other one's wish is nothing to him. */
    private static void ofTwo() {
        for (int b = 0; b <= 12; b++) {
            check.struck(Check.set(2, 9), 0, b, 2, 9);
            check.struck(Check.set(2, 9), 5, b, 2, 9);
            check.struck(Check.set(2, 9), 6, b, 9, 2);
            check.struck(Check.set(2, 9), 12, b, 9, 2);
        }
    }

    /** "of like ones the least": of strikes by which the last one is as near the least GAP is struck. */
    private static void likeOnes() {
        // two strikes that leave two others, as near to a each
        check.struck(Check.set(2, 10), 6, 0, 10, 2);
        check.struck(Check.set(5, 7), 6, 12, 7, 5);
        // the first one's strikes of 0, of 1 and of 3 leave 3, 3 and 1
        check.struck(Check.set(0, 1, 3), 2, 12, 3, 0);
        // the other one's turn: of 0 and 4, both as near to 2, he strikes 0
        check.struck(Check.set(0, 1, 4), 3, 2, 4, 1);
        check.struck(Check.set(0, 1, 4), 0, 2, 1, 0);
        // 1 is left whichever of 0 and 12 goes first
        check.struck(Check.set(0, 1, 12), 1, 1, 1, 0);
    }

    /** "of like ones the least": as both would have it near the same GAP, the nearest is left, and the least other one goes. */
    private static void likeForBoth() {
        check.struck(Check.set(1, 2, 3, 4, 5, 6), 6, 6, 6, 1);
        check.struck(Check.set(1, 2, 3, 4, 5, 6), 1, 1, 1, 2);
        check.struck(Check.set(0, 3, 5, 8, 10, 12), 5, 5, 5, 0);
        check.struck(Check.set(7, 8, 9), 8, 8, 8, 7);
    }

    /** "by turns ... the first one begins": with an even set the first one strikes last, with an odd one the other. */
    private static void whoseTurn() {
        check.struck(Check.set(0, 12), 0, 12, 0, 12);
        check.struck(Check.set(0, 6, 12), 0, 12, 6, 12);
        check.struck(Check.set(0, 4, 8, 12), 0, 12, 4, 8);
        check.struck(Check.set(0, 3, 6, 9, 12), 0, 12, 6, 9);
        check.struck(Check.set(0, 2, 4, 6, 8, 10), 0, 12, 4, 6);
    }

    /** "which is struck first": of the whole set, not of what is left of it then */
    private static void firstStrikeOfSix() {
        SkippedDay x = new SkippedDay();
        check.due("23: of six", x.strike(Check.set(7, 8, 9, 10, 11, 12), 7, 12, 1), 10);
        check.due("23: left of six", x.strike(Check.set(7, 8, 9, 10, 11, 12), 7, 12, 0), 9);
        check.due("23: of two behind six", x.strike(Check.set(0, 1), 0, 0, 1), 1);
        check.due("23: of three behind six", x.strike(Check.set(0, 1, 2), 2, 2, 1), 0);
    }

    /** "In what follows nothing is changed": the set is no part of THE CASE, and where the day is is nothing to it. */
    private static void nothingIsChanged() {
        SkippedDay x = Check.opened("MCa0aa0");
        x.put(4);
        String before = Check.all(x);
        check.due("23: of a case", x.strike(Check.set(0, 6, 12), 0, 12, 0), 6);
        check.same("23: nothing changes", Check.all(x), before);
    }
}
