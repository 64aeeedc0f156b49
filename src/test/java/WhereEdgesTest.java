/** The edges of promises 12 to 15. Each test is headed by the words of the document that it holds. */
public final class WhereEdgesTest {
    private static final Check check = new Check();

    /** EARLY holds with the day in GAPS 1 and 2 alone, LATE in GAPS 3 and 4 alone, EVER everywhere, NEVER nowhere. */
    private static final String EARLY = "Ca0cc3", LATE = "Cc13e0", EVER = "Ca0ll0", NEVER = "Cb0ba5";

    public static void main(String[] args) {
        brokenWhere();
        brokenBits();
        nowhereAsAhead();
        bestOfNothing();
        bestThose();
        bestWhat();
        bestNone();
        bestTold();
        bestFewest();
        bestLeast();
        bestVoid();
        quarrelFirstTwo();
        quarrelNone();
        quarrelHoldsSomewhere();
        quarrelVoid();
        dropNothing();
        dropAll();
        dropFewest();
        dropLeast();
        dropVoid();
        check.end("WhereEdgesTest");
    }

    /** "BAD: gap (0 .. 13)" */
    private static void brokenWhere() {
        SkippedDay x = Check.opened("M" + EARLY);
        check.due("12: below the first gap", x.broken(-1), Check.BAD);
        check.due("12: the first gap", x.broken(0), 1);
        check.due("12: holds in gap 1", x.broken(1), 0);
        check.due("12: holds in gap 2", x.broken(2), 0);
        check.due("12: the last gap", x.broken(12), 1);
        check.due("12: nowhere", x.broken(13), 1);
        check.due("12: behind nowhere", x.broken(14), Check.BAD);
        check.due("12: NONE is no gap", x.broken(Check.NONE), Check.BAD);
    }

    /** "CONTRACTS that are not VOID (bits) that would be BROKEN then": none, each, all */
    private static void brokenBits() {
        SkippedDay x = Check.opened("M" + NEVER.repeat(5));
        check.due("12: all", x.broken(13), 31);
        for (int contract = 0; contract < 5; contract++) {
            x.turnVoid(contract);
            check.due("12: all but " + contract, x.broken(7), 31 - (1 << contract));
            x.turnVoid(contract);
        }
        for (int contract = 0; contract < 5; contract++) {
            x.turnVoid(contract);
        }
        check.due("12: all are void", x.broken(13), 0);
        check.due("12: there are none", Check.opened("M").broken(0), 0);
    }

    /** "(13: nowhere)": all days come alike then as with the day ahead of all or behind all, so nowhere is never the least best. */
    private static void nowhereAsAhead() {
        String[] cases = {EARLY, LATE, EVER, NEVER, "Cl11l0", "Ck0ll2", EARLY + LATE, NEVER + EARLY + "Ca0dl4" + "Cc19k0"};
        for (String some : cases) {
            SkippedDay x = Check.opened("M" + some);
            check.due("12: " + some + " in gap 0", x.broken(0), x.broken(13));
            check.due("12: " + some + " in gap 12", x.broken(12), x.broken(13));
        }
        check.best(Check.opened("M" + EVER), 1, 0, 0);
    }

    /** Without a CONTRACT none is BROKEN, and GAP 0 is the least one. */
    private static void bestOfNothing() {
        check.best(new SkippedDay(), 0, 0, 0);
        check.best(Check.opened("M"), 0, 0, 0);
        check.due("13: there is none to be told", new SkippedDay().best(1, 0), Check.BAD);
    }

    /** "BAD: those (bits of CONTRACTS that there are)": up to all of them, and the first number beyond */
    private static void bestThose() {
        for (int contracts = 0; contracts <= 5; contracts++) {
            SkippedDay x = Check.opened("M" + EVER.repeat(contracts));
            int all = (1 << contracts) - 1;
            check.best(x, 0, 0, 0);
            check.best(x, all, 0, 0);
            check.due("13: one more than " + contracts, x.best(all + 1, 0), Check.BAD);
            check.due("13: one more besides all", x.best(2 * all + 1, 0), Check.BAD);
            check.due("13: below", x.best(-1, 0), Check.BAD);
        }
    }

    /** "which; how many are BROKEN then": what is 0 or 1 */
    private static void bestWhat() {
        SkippedDay x = Check.opened("M" + NEVER);
        check.due("13: below", x.best(0, -1), Check.BAD);
        check.due("13: which", x.best(0, 0), 0);
        check.due("13: how many", x.best(0, 1), 1);
        check.due("13: above", x.best(0, 2), Check.BAD);
        check.due("13: above, where there is none", x.best(1, 2), Check.BAD);
    }

    /** "NONE": there is no place by which none of the told ones is BROKEN. */
    private static void bestNone() {
        check.best(Check.opened("M" + NEVER), 1, Check.NONE, Check.NONE);
        check.best(Check.opened("M" + EARLY + LATE), 3, Check.NONE, Check.NONE);
        SkippedDay five = Check.opened("M" + EVER.repeat(4) + NEVER);
        check.best(five, 31, Check.NONE, Check.NONE);
        check.best(five, 16, Check.NONE, Check.NONE);
        check.best(five, 15, 0, 1);
    }

    /** "those by which none of the told ones is BROKEN" comes ahead of "those by which fewest are" */
    private static void bestTold() {
        SkippedDay x = Check.opened("M" + EARLY.repeat(4) + LATE);
        check.best(x, 0, 1, 1);
        check.best(x, 15, 1, 1);
        check.best(x, 16, 3, 4);
    }

    /** "of these those by which fewest are": also when all are BROKEN wherever it is */
    private static void bestFewest() {
        check.best(Check.opened("M" + NEVER.repeat(5)), 0, 0, 5);
        check.best(Check.opened("M" + NEVER.repeat(4) + LATE), 0, 3, 4);
        check.best(Check.opened("M" + EARLY + LATE + LATE), 0, 3, 1);
    }

    /** "of these the least" */
    private static void bestLeast() {
        check.best(Check.opened("M" + EARLY), 1, 1, 0);
        check.best(Check.opened("M" + LATE), 1, 3, 0);
        check.best(Check.opened("M" + LATE + EARLY), 0, 1, 1);
        // it holds in GAP 11 alone
        check.best(Check.opened("MCk0ll2"), 1, 11, 0);
        check.best(Check.opened("MCk0ll2"), 0, 11, 0);
    }

    /** "(VOID ones do not count)": told or not */
    private static void bestVoid() {
        SkippedDay x = Check.opened("M" + NEVER + LATE);
        check.best(x, 1, Check.NONE, Check.NONE);
        x.turnVoid(0);
        check.best(x, 1, 3, 0);
        check.best(x, 3, 3, 0);
        x.turnVoid(1);
        check.best(x, 3, 0, 0);
    }

    /** "the first two CONTRACTS (by the lesser, then the greater) ...: ten times the lesser and the greater" */
    private static void quarrelFirstTwo() {
        for (int lesser = 0; lesser < 5; lesser++) {
            for (int greater = lesser + 1; greater < 5; greater++) {
                StringBuilder text = new StringBuilder("M");
                for (int contract = 0; contract < 5; contract++) {
                    text.append(contract == lesser ? EARLY : contract == greater ? LATE : EVER);
                }
                check.due("14: " + text, Check.opened(text.toString()).quarrel(), 10 * lesser + greater);
            }
        }
        check.due("14: all of them", Check.opened("M" + EARLY + LATE + EARLY + LATE + EARLY).quarrel(), 1);
        check.due("14: the lesser one counts first", Check.opened("M" + EARLY + EVER + EARLY + LATE + LATE).quarrel(), 3);
        check.due("14: then the greater", Check.opened("M" + EVER + EARLY + EARLY + LATE + LATE).quarrel(), 13);
    }

    /** "NONE" */
    private static void quarrelNone() {
        check.due("14: of nothing", new SkippedDay().quarrel(), Check.NONE);
        check.due("14: of one", Check.opened("M" + EARLY).quarrel(), Check.NONE);
        check.due("14: of like ones", Check.opened("M" + LATE.repeat(5)).quarrel(), Check.NONE);
        // they hold both in GAP 2 and in no other place
        check.due("14: one place is enough", Check.opened("M" + EARLY + "Cb0dd3").quarrel(), Check.NONE);
        check.due("14: GAP 11 is enough", Check.opened("MCk0ll2Ck0ll2").quarrel(), Check.NONE);
    }

    /** "each of which holds somewhere (in some GAP, or nowhere)" */
    private static void quarrelHoldsSomewhere() {
        check.due("14: one never holds", Check.opened("M" + EARLY + NEVER).quarrel(), Check.NONE);
        check.due("14: the lesser one never holds", Check.opened("M" + NEVER + LATE).quarrel(), Check.NONE);
        check.due("14: both never hold", Check.opened("M" + NEVER + NEVER).quarrel(), Check.NONE);
        // the lesser one holds in GAP 11 alone
        check.due("14: one place is enough to hold somewhere", Check.opened("MCk0ll2" + EARLY).quarrel(), 1);
    }

    /** "not VOID" */
    private static void quarrelVoid() {
        SkippedDay x = Check.opened("M" + EARLY + LATE + LATE);
        x.turnVoid(1);
        check.due("14: with the next one", x.quarrel(), 2);
        x.turnVoid(2);
        check.due("14: with none", x.quarrel(), Check.NONE);
        x.turnVoid(1);
        x.turnVoid(0);
        check.due("14: the lesser one is void", x.quarrel(), Check.NONE);
    }

    /** "as bits": none is to be dropped. */
    private static void dropNothing() {
        check.due("15: there are none", new SkippedDay().drop(), 0);
        check.due("15: all hold everywhere", Check.opened("M" + EVER.repeat(5)).drop(), 0);
        check.due("15: all hold in one gap alone", Check.opened("MCk0ll2Ck0ll2" + EVER).drop(), 0);
    }

    /** "the fewest CONTRACTS ... without which all others ... hold": if none ever holds, all. */
    private static void dropAll() {
        for (int contracts = 1; contracts <= 5; contracts++) {
            check.due("15: all " + contracts, Check.opened("M" + NEVER.repeat(contracts)).drop(), (1 << contracts) - 1);
        }
    }

    /** "the fewest": though these are greater as bits */
    private static void dropFewest() {
        check.due("15: the last one", Check.opened("M" + EARLY.repeat(4) + LATE).drop(), 16);
        check.due("15: the first one", Check.opened("M" + EARLY + LATE.repeat(4)).drop(), 1);
        check.due("15: and one that never holds", Check.opened("M" + NEVER + EARLY + EARLY + LATE).drop(), 9);
    }

    /** "of like ones the least" */
    private static void dropLeast() {
        check.due("15: of two", Check.opened("M" + EARLY + LATE).drop(), 1);
        check.due("15: of two, turned", Check.opened("M" + LATE + EARLY).drop(), 1);
        check.due("15: of two and two", Check.opened("M" + EARLY + LATE + EVER + LATE + EARLY).drop(), 10);
        check.due("15: of three", Check.opened("M" + LATE + "Ck0ll2" + EARLY).drop(), 3);
    }

    /** "CONTRACTS, not VOID, ... all others (not VOID)" */
    private static void dropVoid() {
        SkippedDay x = Check.opened("M" + NEVER + EARLY + LATE);
        check.due("15: none is void", x.drop(), 3);
        x.turnVoid(0);
        check.due("15: a void one is not dropped", x.drop(), 2);
        x.turnVoid(2);
        check.due("15: nor does it stand against others", x.drop(), 0);
        x.turnVoid(1);
        check.due("15: all are void", x.drop(), 0);
    }
}
