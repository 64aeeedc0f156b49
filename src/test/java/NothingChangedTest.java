import java.util.function.ToLongFunction;

/**
 * "In what follows nothing is changed", and what the other calls that ask leave as it is: each is made on objects that
 * stand differently, and all that can be learnt of such an object then is held against what is learnt of one made alike.
 */
public final class NothingChangedTest {
    private static final Check check = new Check();

    private static final Stand[] ALL = {Stand.fresh(), Stand.some(), Stand.full()};

    public static void main(String[] args) {
        theCase();
        where();
        readAndOfAge();
        debtsAndSides();
        rulesAndChances();
        nothingButTheSeed();
        check.end("NothingChangedTest");
    }

    private static void asked(String call, ToLongFunction<SkippedDay> calling) {
        for (Stand stand : ALL) {
            SkippedDay x = stand.make();
            long first = calling.applyAsLong(x);
            check.due(call + " of " + stand.name + " once more", calling.applyAsLong(x), first);
            check.same(call + " changes nothing of " + stand.name, Stand.learnt(x), stand.untouched);
        }
    }

    private static void theCase() {
        asked("4: fault()", SkippedDay::fault);
        for (int some = 0; some <= 9; some++) {
            int what = some;
            asked("6: about(" + what + ")", x -> x.about(what));
            asked("7: contract(1, " + what + ")", x -> x.contract(1, what));
        }
    }

    private static void where() {
        for (int some = 0; some <= 13; some++) {
            int place = some;
            asked("12: broken(" + place + ")", x -> x.broken(place));
        }
        for (int some = 0; some <= 3; some++) {
            int those = some;
            asked("13: best(" + those + ", 0)", x -> x.best(those, 0));
            asked("13: best(" + those + ", 1)", x -> x.best(those, 1));
        }
        asked("14: quarrel()", SkippedDay::quarrel);
        asked("15: drop()", SkippedDay::drop);
    }

    private static void readAndOfAge() {
        for (int some = 0; some <= 13; some++) {
            int place = some;
            asked("19: ofAge(0, " + place + ")", x -> x.ofAge(0, place));
            asked("20: agree(11, " + place + ")", x -> x.agree(11, place));
        }
        for (int some = 0; some < 5; some++) {
            int contract = some;
            asked("18: meant(" + contract + ")", x -> x.meant(contract));
        }
    }

    private static void debtsAndSides() {
        for (int some = 0; some < 4; some++) {
            int party = some;
            asked("21: net(" + party + ")", x -> x.net(party));
        }
        asked("22: payings()", SkippedDay::payings);
        asked("23: strike(126, 1, 6, 0)", x -> x.strike(126, 1, 6, 0));
        asked("23: strike(4097, 1, 6, 1)", x -> x.strike(4097, 1, 6, 1));
    }

    private static void rulesAndChances() {
        asked("24: rule(10, 512, 0)", x -> x.rule(10, 512, 0));
        asked("24: rule(3, 3, 1)", x -> x.rule(3, 3, 1));
        asked("25: slips(6, 3, 5, true)", x -> x.slips(6, 3, 5, true));
        asked("25: slips(6, 3, 5, false)", x -> x.slips(6, 3, 5, false));
    }

    /** "(Nothing changes but THE SEED.)" */
    private static void nothingButTheSeed() {
        for (Stand stand : ALL) {
            for (int m = 1; m <= 40; m++) {
                SkippedDay x = stand.make();
                long before = x.seed(m);
                x.years(m);
                x.seed(before);
                check.same("27: years(" + m + ") of " + stand.name, Stand.learnt(x), stand.untouched);
            }
        }
    }
}
