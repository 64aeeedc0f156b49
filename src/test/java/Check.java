/** What the tests share: the count of answers, and objects that stand at a told case. */
final class Check {
    static final int UNKNOWN = -1, BAD = -2, LATE = -3, FULL = -4, NONE = -9;
    static final int NOWHERE = 13;

    private int passed = 0;
    private int failed = 0;

    void due(String call, long got, long want) {
        if (got == want) {
            passed++;
        } else {
            failed++;
            System.out.println(call + " answered " + got + ", due is " + want);
        }
    }

    /** Both answers of best for told ones: where, and how many are BROKEN then. */
    void best(SkippedDay x, int those, int where, int count) {
        due("13: best(" + those + ", 0)", x.best(those, 0), where);
        due("13: best(" + those + ", 1)", x.best(those, 1), count);
    }

    /** Both answers of strike, by a new object: which GAP is left, and which is struck first. */
    void struck(int set, int a, int b, int left, int first) {
        SkippedDay x = new SkippedDay();
        due("23: strike(" + set + ", " + a + ", " + b + ", 0)", x.strike(set, a, b, 0), left);
        due("23: strike(" + set + ", " + a + ", " + b + ", 1)", x.strike(set, a, b, 1), first);
    }

    static int set(int... gaps) {
        int bits = 0;
        for (int gap : gaps) {
            bits |= 1 << gap;
        }
        return bits;
    }

    /** Both answers of rule, by a new object: p and r. */
    void ruled(int n, int years, int p, int r) {
        SkippedDay x = new SkippedDay();
        due("24: rule(" + n + ", " + years + ", 0)", x.rule(n, years, 0), p);
        due("24: rule(" + n + ", " + years + ", 1)", x.rule(n, years, 1), r);
    }

    /** Both answers of slips, by a new object: what is above, and what is below. */
    void chance(int n, int k, int tenths, int above, int below) {
        SkippedDay x = new SkippedDay();
        String call = "25: slips(" + n + ", " + k + ", " + tenths;
        due(call + ", true)", x.slips(n, k, tenths, true), above);
        due(call + ", false)", x.slips(n, k, tenths, false), below);
    }

    /** Ends the program, with exit code 1 if an answer was not the due one. */
    void end(String test) {
        System.out.println(test + ": " + passed + " passed, " + failed + " failed");
        if (failed != 0 || passed == 0) {
            System.exit(1);
        }
    }

    static void write(SkippedDay x, String text) {
        x.wipe();
        for (int i = 0; i < text.length(); i++) {
            x.write(text.charAt(i));
        }
    }

    static SkippedDay opened(String text) {
        SkippedDay x = new SkippedDay();
        write(x, text);
        if (x.open() < 0) {
            throw new IllegalStateException("no case: " + text);
        }
        return x;
    }

    /** What can be asked without a change, as one row of 72 answers, to see that nothing has changed. */
    static String all(SkippedDay x) {
        StringBuilder row = new StringBuilder();
        for (int what = 0; what <= 9; what++) {
            row.append(x.about(what)).append(' ');
        }
        for (int contract = 0; contract < 5; contract++) {
            for (int what = 0; what <= 6; what++) {
                row.append(x.contract(contract, what)).append(' ');
            }
            row.append(x.meant(contract)).append(' ');
        }
        for (int birth = 0; birth < 3; birth++) {
            row.append(x.ofAge(birth, NOWHERE)).append(' ');
        }
        for (int day = 0; day < 12; day++) {
            row.append(x.agree(day, NOWHERE)).append(' ');
        }
        for (int party = 0; party < 4; party++) {
            row.append(x.net(party)).append(' ');
        }
        long seed = x.seed(0);
        x.seed(seed);
        row.append(x.fault()).append(' ').append(seed);
        return row.toString();
    }

    void same(String call, String got, String want) {
        due(call + ": " + got + " / " + want, got.equals(want) ? 1 : 0, 1);
    }
}
