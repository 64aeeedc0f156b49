/** Promises 24 to 27: rules, chances, years by the seed. */
public final class ChanceTest {
    private static final Check check = new Check();

    public static void main(String[] args) {
        rule();
        slips();
        seed();
        years();
        check.end("ChanceTest");
    }

    private static void rule() {
        check.ruled(1, 0, 0, 0);
        check.ruled(10, 0, 0, 0);
        check.ruled(1, 1, 1, 0);
        check.ruled(10, 1023, 1, 0);
        check.ruled(2, 1, 2, 0);
        check.ruled(2, 2, 2, 1);
        check.ruled(3, 4, 3, 2);
        check.ruled(5, 16, 5, 4);
        check.ruled(5, 4, 3, 2);
        check.ruled(10, 682, 2, 1);
        check.ruled(10, 1, 10, 0);
        check.ruled(10, 512, 10, 9);
        check.ruled(10, 32, 6, 5);
        check.ruled(10, 585, 3, 0);
        check.ruled(10, 273, 4, 0);
        check.ruled(10, 274, Check.NONE, Check.NONE);
        check.ruled(2, 3, 1, 0);
        check.ruled(3, 3, Check.NONE, Check.NONE);
        check.ruled(10, 1022, Check.NONE, Check.NONE);
    }

    private static void slips() {
        check.chance(1, 0, 0, 1, 1);
        check.chance(1, 1, 0, 0, 1);
        check.chance(6, 3, 0, 0, 1);
        check.chance(6, 0, 0, 1, 1);
        check.chance(6, 6, 10, 1, 1);
        check.chance(6, 5, 10, 0, 1);
        check.chance(1, 1, 3, 3, 10);
        check.chance(1, 0, 3, 7, 10);
        check.chance(1, 1, 5, 1, 2);
        check.chance(1, 1, 4, 2, 5);
        check.chance(2, 1, 5, 1, 2);
        check.chance(2, 1, 1, 9, 50);
        check.chance(4, 2, 3, 1323, 5000);
        check.chance(6, 3, 5, 5, 16);
        check.chance(6, 6, 1, 1, 1000000);
        check.chance(6, 0, 1, 531441, 1000000);
        check.chance(6, 6, 9, 531441, 1000000);
        check.chance(6, 3, 3, 9261, 50000);
        check.chance(5, 3, 4, 144, 625);
    }

    private static void seed() {
        SkippedDay x = new SkippedDay();
        check.due("26: at first", x.seed(Long.MIN_VALUE), 0);
        check.due("26: least", x.seed(Long.MAX_VALUE), Long.MIN_VALUE);
        check.due("26: greatest", x.seed(-1), Long.MAX_VALUE);
        check.due("26: it is so again", x.seed(-1), -1);
        check.due("26: no act", x.about(7), 0);
    }

    private static void years() {
        // BROKEN in every GAP but 1 and 2, and never: one of them in each other year
        SkippedDay x = Check.opened("MCa0cc3Ca0ll0");
        check.due("27: one year", x.years(1), drawn(0, 1));
        check.due("27: the seed then", x.seed(0), 1442695040888963407L);
        check.due("27: forty years", x.years(40), drawn(0, 40));
        x.seed(-7);
        String before = Check.all(x);
        check.due("27: of a seed below nothing", x.years(25), drawn(-7, 25));
        long then = x.seed(-7);
        check.same("27: nothing else changes", Check.all(x), before);
        x.seed(-7);
        int sum = x.years(10) + x.years(15);
        check.due("27: goes on from the seed", sum, drawn(-7, 25));
        check.due("27: to the same one", x.seed(0), then);
        check.due("27: all void", voided().years(40), 0);
        SkippedDay always = Check.opened("MCb0ba5Cb0ba5");
        always.put(4);
        check.due("27: all together", always.years(40), 80);
    }

    private static SkippedDay voided() {
        SkippedDay x = Check.opened("MCb0ba5");
        x.turnVoid(0);
        return x;
    }

    /** The years, of m by a seed, in which the drawn place is neither GAP 1 nor GAP 2. */
    private static int drawn(long seed, int m) {
        long x = seed;
        int count = 0;
        for (int i = 0; i < m; i++) {
            x = x * 6364136223846793005L + 1442695040888963407L;
            long place = Long.divideUnsigned(x, 1L << 33) % 14;
            if (place != 1 && place != 2) {
                count++;
            }
        }
        return count;
    }
}
