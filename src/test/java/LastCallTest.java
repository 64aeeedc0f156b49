import java.util.function.ToLongFunction;

/** "An object is used for at most 512 calls after it has been made": the 512th one is answered as any other. */
public final class LastCallTest {
    private static final Check check = new Check();

    private static final int CALLS = 512;

    public static void main(String[] args) {
        theCase();
        acts();
        where();
        readAndOfAge();
        debtsAndSides();
        rulesAndChances();
        slots();
        moreThanPromised();
        check.end("LastCallTest");
    }

    /** The day is in GAP 4, where contract 1 alone is broken; what stands in SLOT 1 was kept with it in GAP 3. */
    private static SkippedDay beforeTheLast() {
        String text = "MCc13e0Ca0cc3Ba9T20O019";
        SkippedDay x = new SkippedDay();
        for (char letter : text.toCharArray()) {
            x.write(letter);
        }
        x.open();
        x.put(3);
        x.see(0, 4);
        x.keep(1);
        x.seed(7);
        int calls = text.length() + 5;
        while (calls < CALLS - 1) {
            x.put(calls % 2 == 0 ? 4 : 5);
            calls++;
        }
        return x;
    }

    private static void last(String call, long want, ToLongFunction<SkippedDay> calling) {
        check.due("the last call " + call, calling.applyAsLong(beforeTheLast()), want);
    }

    private static void theCase() {
        last("write(0)", 24, x -> x.write(0));
        last("wipe()", 23, SkippedDay::wipe);
        last("fault()", Check.NONE, SkippedDay::fault);
        last("open()", 21, SkippedDay::open);
        last("about(4)", 4, x -> x.about(4));
        last("about(7)", 14, x -> x.about(7));
        last("contract(0, 6)", 5, x -> x.contract(0, 6));
    }

    private static void acts() {
        last("put(12)", 4, x -> x.put(12));
        last("put(4)", Check.LATE, x -> x.put(4));
        last("turnVoid(1)", 1, x -> x.turnVoid(1));
        last("readOtherwise(0)", 0, x -> x.readOtherwise(0));
        last("undo()", 13, SkippedDay::undo);
    }

    private static void where() {
        last("broken(1)", 1, x -> x.broken(1));
        last("best(1, 0)", 3, x -> x.best(1, 0));
        last("quarrel()", 1, SkippedDay::quarrel);
        last("drop()", 1, SkippedDay::drop);
    }

    private static void readAndOfAge() {
        last("see(1, 0)", 2, x -> x.see(1, 0));
        last("unsee()", 1, SkippedDay::unsee);
        last("meant(0)", 2, x -> x.meant(0));
        last("ofAge(0, 13)", 9, x -> x.ofAge(0, 13));
        last("agree(0, 13)", 1, x -> x.agree(0, 13));
    }

    private static void debtsAndSides() {
        last("net(1)", 109, x -> x.net(1));
        last("payings()", 1, SkippedDay::payings);
        last("strike(7, 0, 2, 0)", 1, x -> x.strike(7, 0, 2, 0));
    }

    private static void rulesAndChances() {
        last("rule(10, 512, 0)", 10, x -> x.rule(10, 512, 0));
        last("slips(1, 1, 5, false)", 2, x -> x.slips(1, 1, 5, false));
        last("seed(0)", 7, x -> x.seed(0));
        last("years(0)", Check.BAD, x -> x.years(0));
        last("years(40)", yearsAtFirst(), x -> x.years(40));
    }

    /** The same years, asked of an object that has had few calls. */
    private static int yearsAtFirst() {
        SkippedDay x = Check.opened("MCc13e0Ca0cc3");
        x.seed(7);
        return x.years(40);
    }

    private static void slots() {
        last("keep(0)", 1, x -> x.keep(0));
        last("again(1)", 1, x -> x.again(1));
        last("again(0)", Check.LATE, x -> x.again(0));
    }

    /** "what later calls answer is free": but no call throws, for any arguments in any state. */
    private static void moreThanPromised() {
        SkippedDay x = beforeTheLast();
        int[] numbers = {Integer.MIN_VALUE, -257, -1, 0, 1, 4, 5, 12, 13, 14, 31, 32, 64, 255, 8191, Integer.MAX_VALUE};
        for (int one : numbers) {
            for (int other : numbers) {
                any(x, one, other);
            }
        }
        check.due("calls that ended", 1, 1);
    }

    private static void any(SkippedDay x, int one, int other) {
        x.write(one);
        x.fault();
        x.about(one);
        x.contract(one, other);
        x.put(one);
        x.turnVoid(one);
        x.readOtherwise(one);
        x.broken(one);
        x.best(one, other);
        x.see(one, other);
        x.meant(one);
        x.ofAge(one, other);
        x.agree(one, other);
        x.net(one);
        x.strike(one, other, one, other);
        x.strike(126, one, other, 0);
        x.rule(one, other, 0);
        x.rule(10, one, other);
        x.slips(one, other, 5, true);
        x.slips(6, one, other, false);
        x.seed(one * 0x1000000010000001L);
        x.years(one);
        x.keep(one);
        x.again(other);
        x.undo();
    }
}
