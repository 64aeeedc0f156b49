import java.math.BigInteger;

/** The edges of promises 24 to 27. Each test is headed by the words of the document that it holds. */
public final class ChanceEdgesTest {
    private static final Check check = new Check();

    public static void main(String[] args) {
        ruleYears();
        ruleBits();
        ruleWhat();
        ruleNoneHas();
        ruleOneYear();
        ruleLeast();
        ruleNone();
        slipsYears();
        slipsOfThem();
        slipsTenths();
        slipsNothing();
        slipsCertain();
        slipsLeastTerms();
        seedAtFirst();
        seedLeastAndGreatest();
        seedWraps();
        upperBits();
        yearsLeastAndMost();
        yearsRefused();
        yearsOfNone();
        check.end("ChanceEdgesTest");
    }

    /** "(n 1 .. 10)" */
    private static void ruleYears() {
        check.ruled(0, 0, Check.BAD, Check.BAD);
        check.ruled(1, 0, 0, 0);
        check.ruled(10, 0, 0, 0);
        check.ruled(11, 0, Check.BAD, Check.BAD);
        check.ruled(-1, 0, Check.BAD, Check.BAD);
        check.ruled(11, 1, Check.BAD, Check.BAD);
        check.ruled(32, 1, Check.BAD, Check.BAD);
    }

    /** "years (bits of n)": up to all of them, and the first number beyond, for each n */
    private static void ruleBits() {
        for (int n = 1; n <= 10; n++) {
            check.ruled(n, -1, Check.BAD, Check.BAD);
            check.ruled(n, 0, 0, 0);
            check.ruled(n, (1 << n) - 1, 1, 0);
            check.ruled(n, 1 << n, Check.BAD, Check.BAD);
            check.ruled(n, (1 << n) + 1, Check.BAD, Check.BAD);
            check.ruled(n, Integer.MIN_VALUE, Check.BAD, Check.BAD);
            check.ruled(n, Integer.MAX_VALUE, Check.BAD, Check.BAD);
        }
    }

    /** "p (what = 0), r (1 ...)", "BAD: ... what": also where nothing else is to be told */
    private static void ruleWhat() {
        SkippedDay x = new SkippedDay();
        int[] patterns = {0, 5, 2, 7};
        for (int years : patterns) {
            check.due("24: below", x.rule(3, years, -1), Check.BAD);
            check.due("24: above", x.rule(3, years, 2), Check.BAD);
        }
        check.due("24: p", x.rule(3, 2, 0), 2);
        check.due("24: r", x.rule(3, 2, 1), 1);
    }

    /** "or 0: none has", "r (1; 0 if p is 0)" */
    private static void ruleNoneHas() {
        for (int n = 1; n <= 10; n++) {
            check.ruled(n, 0, 0, 0);
        }
    }

    /** One year alone: p is so great that neither a year ahead of it nor one behind it is told, up to 10. */
    private static void ruleOneYear() {
        for (int n = 1; n <= 10; n++) {
            for (int year = 0; year < n; year++) {
                int p = Math.max(year + 1, n - year);
                check.ruled(n, 1 << year, p, year);
            }
        }
        check.ruled(10, 1, 10, 0);
        check.ruled(10, 512, 10, 9);
    }

    /** "the least p (1 .. 10) so that some r (0 .. p - 1) tells it": each r of each p that tells two years at least */
    private static void ruleLeast() {
        for (int n = 2; n <= 10; n++) {
            for (int p = 1; p < n; p++) {
                for (int r = 0; r < p && r + p < n; r++) {
                    int years = 0;
                    for (int year = r; year < n; year += p) {
                        years |= 1 << year;
                    }
                    check.ruled(n, years, p, r);
                }
            }
        }
    }

    /** "NONE: there is no such p" */
    private static void ruleNone() {
        check.ruled(3, 3, Check.NONE, Check.NONE);
        check.ruled(3, 6, Check.NONE, Check.NONE);
        check.ruled(10, 1023 - 1, Check.NONE, Check.NONE);
        check.ruled(10, 1023 - 512, Check.NONE, Check.NONE);
        check.ruled(10, 512 + 1 + 2, Check.NONE, Check.NONE);
        // 0 and 4 of nine would be told with 8
        check.ruled(9, 17, Check.NONE, Check.NONE);
        check.ruled(8, 17, 4, 0);
    }

    private static void noChance(int n, int k, int x) {
        check.chance(n, k, x, Check.BAD, Check.BAD);
    }

    /** "each of n years (1 .. 6)" */
    private static void slipsYears() {
        noChance(-1, 0, 0);
        noChance(0, 0, 0);
        check.chance(1, 0, 5, 1, 2);
        check.chance(6, 0, 5, 1, 64);
        noChance(7, 0, 5);
        noChance(Integer.MIN_VALUE, 0, 5);
        noChance(Integer.MAX_VALUE, 0, 5);
    }

    /** "just k of them (0 .. n)": for each n none, all, and the first number beyond at each end */
    private static void slipsOfThem() {
        int[] halves = {1, 2, 4, 8, 16, 32, 64};
        for (int n = 1; n <= 6; n++) {
            noChance(n, -1, 5);
            check.chance(n, 0, 5, 1, halves[n]);
            check.chance(n, n, 5, 1, halves[n]);
            noChance(n, n + 1, 5);
            noChance(n, Integer.MIN_VALUE, 5);
            noChance(n, Integer.MAX_VALUE, 5);
        }
    }

    /** "by x tenths (0 .. 10)" */
    private static void slipsTenths() {
        noChance(1, 1, -1);
        check.chance(1, 1, 0, 0, 1);
        check.chance(1, 1, 1, 1, 10);
        check.chance(1, 1, 9, 9, 10);
        check.chance(1, 1, 10, 1, 1);
        noChance(1, 1, 11);
        noChance(1, 1, Integer.MIN_VALUE);
        noChance(1, 1, Integer.MAX_VALUE);
    }

    /** A chance that is nothing is 0 above and 1 below, "in least terms". */
    private static void slipsNothing() {
        for (int n = 1; n <= 6; n++) {
            for (int k = 1; k <= n; k++) {
                check.chance(n, k, 0, 0, 1);
                check.chance(n, n - k, 10, 0, 1);
            }
        }
    }

    /** A chance that is certain is 1 above and 1 below. */
    private static void slipsCertain() {
        for (int n = 1; n <= 6; n++) {
            check.chance(n, 0, 0, 1, 1);
            check.chance(n, n, 10, 1, 1);
        }
    }

    /** "FRACTIONS are told above (upper = true), below, in least terms": each chance that there is */
    private static void slipsLeastTerms() {
        for (int n = 1; n <= 6; n++) {
            for (int x = 0; x <= 10; x++) {
                SkippedDay day = new SkippedDay();
                long all = (long) Math.pow(10, n);
                long sum = 0;
                for (int k = 0; k <= n; k++) {
                    long above = day.slips(n, k, x, true);
                    long below = day.slips(n, k, x, false);
                    String call = "25: slips(" + n + ", " + k + ", " + x + ")";
                    long common = BigInteger.valueOf(above).gcd(BigInteger.valueOf(below)).longValue();
                    check.due(call + " has nothing in common", common, 1);
                    check.due(call + " is of tenths", below > 0 ? all % below : -1, 0);
                    sum += below > 0 ? above * (all / below) : 0;
                }
                check.due("25: all of " + n + " by " + x, sum, all);
            }
        }
        check.chance(6, 6, 1, 1, 1000000);
        check.chance(6, 0, 1, 531441, 1000000);
    }

    /** "THE SEED, a long; 0 at first" */
    private static void seedAtFirst() {
        check.due("26: at first", new SkippedDay().seed(5), 0);
        SkippedDay x = new SkippedDay();
        x.years(1);
        check.due("27: of 0 comes the second number", x.seed(0), 1442695040888963407L);
    }

    /** "THE SEED is v: what it was", for the least and the greatest long */
    private static void seedLeastAndGreatest() {
        SkippedDay x = new SkippedDay();
        long[] seeds = {Long.MIN_VALUE, Long.MAX_VALUE, -1, 0, 1L << 32, -1L << 31, Integer.MIN_VALUE, 1};
        long before = 0;
        for (long seed : seeds) {
            check.due("26: seed(" + seed + ")", x.seed(seed), before);
            before = seed;
        }
        check.due("26: the last one", x.seed(0), 1);
    }

    private static final long[] SEEDS =
        {0, 1, -1, 2, -2, Long.MAX_VALUE, Long.MIN_VALUE, 1L << 62, -1L << 62, 0x5555555555555555L, 0xAAAAAAAAAAAAAAAAL};

    private static BigInteger following(long seed) {
        BigInteger round = BigInteger.ONE.shiftLeft(64);
        return BigInteger.valueOf(seed).multiply(new BigInteger("6364136223846793005"))
            .add(new BigInteger("1442695040888963407")).mod(round);
    }

    /** "(64 bits, wrapping)" */
    private static void seedWraps() {
        for (long seed : SEEDS) {
            SkippedDay x = new SkippedDay();
            x.seed(seed);
            x.years(1);
            check.due("27: behind " + seed, x.seed(0), following(seed).longValue());
        }
        SkippedDay x = new SkippedDay();
        x.seed(1);
        x.years(1);
        check.due("27: behind 1", x.seed(-1), 7806831264735756412L);
        x.years(1);
        check.due("27: behind -1", x.seed(0), -4921441182957829598L);
    }

    /** "what is left of its upper 31 bits by 14 is a GAP (13: nowhere)": of seeds above and below nothing, to each GAP */
    private static void upperBits() {
        // how many are broken goes up and down from GAP to GAP
        SkippedDay x = Check.opened("MCb0cl2Ca0dl4Cf0gl2Ca0gl7Cj0kl2");
        int reached = 0;
        for (int number = -100; number < 100; number++) {
            long seed = number * 0x123456789ABCDEFL;
            int place = following(seed).shiftRight(33).mod(BigInteger.valueOf(14)).intValue();
            reached |= 1 << place;
            if (number % 50 == 0) {
                x = Check.opened("MCb0cl2Ca0dl4Cf0gl2Ca0gl7Cj0kl2");
            }
            x.seed(seed);
            check.due("27: one year behind " + seed, x.years(1), Integer.bitCount(x.broken(place)));
        }
        check.due("27: each gap and nowhere is reached", reached, (1 << 14) - 1);
    }

    /** "m times (1 .. 40)" */
    private static void yearsLeastAndMost() {
        for (int m = 1; m <= 40; m++) {
            SkippedDay x = Check.opened("MCb0ba5Cb0ba5");
            check.due("27: two are broken in each of " + m, x.years(m), 2 * m);
            long seed = 0;
            for (int year = 0; year < m; year++) {
                seed = following(seed).longValue();
            }
            check.due("27: the seed behind " + m, x.seed(0), seed);
        }
        check.due("27: most of all", Check.opened("M" + "Cb0ba5".repeat(5)).years(40), 200);
    }

    /** "BAD: m": and THE SEED stays. */
    private static void yearsRefused() {
        SkippedDay x = Check.opened("MCb0ba5");
        x.seed(9);
        int[] none = {-1, 0, 41, Integer.MIN_VALUE, Integer.MAX_VALUE};
        for (int m : none) {
            check.due("27: years(" + m + ")", x.years(m), Check.BAD);
            check.due("27: the seed stays", x.seed(9), 9);
        }
    }

    /** Without a CONTRACT, or with VOID ones alone, none is BROKEN, and yet THE SEED goes on. */
    private static void yearsOfNone() {
        SkippedDay fresh = new SkippedDay();
        check.due("27: there are none", fresh.years(40), 0);
        SkippedDay x = Check.opened("MCb0ba5");
        x.turnVoid(0);
        check.due("27: all are void", x.years(40), 0);
        check.due("27: as many steps", x.seed(0), fresh.seed(0));
        check.due("27: no act but the one", x.about(7), 1);
    }
}
