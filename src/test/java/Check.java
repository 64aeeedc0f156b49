/** What the tests share: the count of answers, and objects that stand at a told case. */
final class Check {
    static final int UNKNOWN = -1, BAD = -2, LATE = -3, FULL = -4, NONE = -9;
    static final int NOWHERE = 13;

    private int passed = 0;
    private int failed = 0;

    void due(String call, long got, long want) {
        if (got == want) {
            passed++;
        } else {
            failed++;
            System.out.println(call + " answered " + got + ", due is " + want);
        }
    }

    /** Ends the program, with exit code 1 if an answer was not the due one. */
    void end(String test) {
        System.out.println(test + ": " + passed + " passed, " + failed + " failed");
        if (failed != 0 || passed == 0) {
            System.exit(1);
        }
    }

    static void write(SkippedDay x, String text) {
        x.wipe();
        for (int i = 0; i < text.length(); i++) {
            x.write(text.charAt(i));
        }
    }

    static SkippedDay opened(String text) {
        SkippedDay x = new SkippedDay();
        write(x, text);
        if (x.open() < 0) {
            throw new IllegalStateException("no case: " + text);
        }
        return x;
    }

    /** What can be asked without a change, as one row of 72 answers, to see that nothing has changed. */
    static String all(SkippedDay x) {
        StringBuilder row = new StringBuilder();
        for (int what = 0; what <= 9; what++) {
            row.append(x.about(what)).append(' ');
        }
        for (int contract = 0; contract < 5; contract++) {
            for (int what = 0; what <= 6; what++) {
                row.append(x.contract(contract, what)).append(' ');
            }
            row.append(x.meant(contract)).append(' ');
        }
        for (int birth = 0; birth < 3; birth++) {
            row.append(x.ofAge(birth, NOWHERE)).append(' ');
        }
        for (int day = 0; day < 12; day++) {
            row.append(x.agree(day, NOWHERE)).append(' ');
        }
        for (int party = 0; party < 4; party++) {
            row.append(x.net(party)).append(' ');
        }
        long seed = x.seed(0);
        x.seed(seed);
        row.append(x.fault()).append(' ').append(seed);
        return row.toString();
    }

    void same(String call, String got, String want) {
        due(call + ": " + got + " / " + want, got.equals(want) ? 1 : 0, 1);
    }
}
