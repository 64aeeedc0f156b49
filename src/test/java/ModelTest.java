import java.util.Random;

/** All promises together: long runs of calls, each answer held against that of the model. */
public final class ModelTest {
    private static final Check check = new Check();
    private static final int RUNS = 400;
    private static final int CALLS = 512;
    /** More than telling a case takes: a later one would ask an object that nothing is promised about any more. */
    private static final int CALLS_OF_A_TEXT = 100;
    private static final String[] KINDS = {"C", "C", "C", "B", "T", "O", "O"};

    private final Random random;
    private final SkippedDay x = new SkippedDay();
    private final Model model = new Model();
    private int calls = 0;
    private final String run;

    private ModelTest(int number) {
        random = new Random(number);
        run = "run " + number;
    }

    public static void main(String[] args) {
        for (int number = 0; number < RUNS; number++) {
            ModelTest test = new ModelTest(number);
            while (test.calls < CALLS) {
                test.step(number % 4 == 0);
            }
        }
        check.end("ModelTest");
    }

    private void due(String call, long got, long want) {
        calls++;
        check.due(run + " call " + calls + ": " + call, got, want);
    }

    private int below(int bound) {
        return random.nextInt(bound);
    }

    /** Mostly a number from below nothing to just above the bound; now and then any. */
    private int about(int bound) {
        return below(40) == 0 ? random.nextInt() : below(bound + 2) - 1;
    }

    /** Mostly one that is told, for most calls ask of these. */
    private int number(int most) {
        return below(8) == 0 ? about(most) : below(most);
    }

    private void step(boolean anyText) {
        int kind = calls == 0 ? 0 : below(60);
        if (kind == 0) {
            if (calls + CALLS_OF_A_TEXT <= CALLS) {
                text(anyText);
            }
        } else if (kind < 24) {
            change(kind);
        } else {
            ask(kind);
        }
    }

    private void text(boolean anyText) {
        due("wipe", x.wipe(), model.wipe());
        String text = told();
        if (anyText && below(2) == 0) {
            text = spoilt(text);
        }
        for (int i = 0; i < text.length(); i++) {
            int letter = text.charAt(i);
            due("write " + letter, x.write(letter), model.write(letter));
        }
        due("fault of " + text, x.fault(), model.fault());
        due("open " + text, x.open(), model.open());
    }

    private String told() {
        StringBuilder text = new StringBuilder("M");
        int parts = below(14);
        for (int i = 0; i < parts; i++) {
            text.append(part(KINDS[below(KINDS.length)]));
        }
        return text.toString();
    }

    private String part(String kind) {
        switch (kind) {
            case "C":
                int start = below(8);
                int end = Math.min(11, start + below(5));
                boolean byName = below(2) == 0;
                return kind + day(start) + (byName ? "0" + day(end) : "1" + (end - start))
                    + day(Math.min(11, Math.max(0, end + below(4) - 1))) + Math.max(0, end - start - 1 + below(3));
            case "B":
                return kind + day(below(12)) + below(10);
            case "T":
                return kind + (2 + below(8)) + below(10);
            default:
                int party = below(4);
                return kind + party + (party + 1 + below(3)) % 4 + (1 + below(9));
        }
    }

    private static char day(int day) {
        return (char) ('a' + day);
    }

    private String spoilt(String text) {
        String signs = "MCBTO019alm/:`";
        int at = below(text.length());
        char sign = below(10) == 0 ? (char) below(256) : signs.charAt(below(signs.length()));
        String ahead = text.substring(0, at);
        return below(3) == 0 ? ahead : ahead + sign + text.substring(below(2) == 0 ? at : at + 1);
    }

    private void change(int kind) {
        int c = number(5);
        if (kind < 5) {
            int gap = number(14);
            due("put " + gap, x.put(gap), model.put(gap));
        } else if (kind < 8) {
            due("turnVoid " + c, x.turnVoid(c), model.turnVoid(c));
        } else if (kind < 12) {
            due("readOtherwise " + c, x.readOtherwise(c), model.readOtherwise(c));
        } else if (kind < 16) {
            due("undo", x.undo(), model.undo());
        } else if (kind < 18) {
            int d = number(12);
            due("see " + c + " " + d, x.see(c, d), model.see(c, d));
        } else if (kind == 18 && below(3) == 0) {
            due("unsee", x.unsee(), model.unsee());
        } else if (kind == 19) {
            int letter = about(256);
            due("write " + letter, x.write(letter), model.write(letter));
        } else if (kind < 22) {
            int slot = about(2);
            due("keep " + slot, x.keep(slot), model.keep(slot));
        } else if (kind == 22) {
            int slot = about(2);
            due("again " + slot, x.again(slot), model.again(slot));
        } else {
            long v = below(2) == 0 ? random.nextLong() : below(9) - 4;
            due("seed " + v, x.seed(v), model.seed(v));
        }
    }

    private void ask(int kind) {
        int c = number(5);
        int what = about(2);
        int gap = number(14);
        if (kind < 28) {
            int which = about(10);
            due("about " + which, x.about(which), model.about(which));
        } else if (kind < 31) {
            int which = about(7);
            due("contract " + c + " " + which, x.contract(c, which), model.contract(c, which));
        } else if (kind < 34) {
            due("broken " + gap, x.broken(gap), model.broken(gap));
        } else if (kind < 37) {
            int those = about(1 << model.about(0));
            due("best " + those + " " + what, x.best(those, what), model.best(those, what));
        } else if (kind < 39) {
            due("quarrel", x.quarrel(), model.quarrel());
        } else if (kind < 41) {
            due("drop", x.drop(), model.drop());
        } else if (kind < 44) {
            due("meant " + c, x.meant(c), model.meant(c));
        } else {
            askMore(kind, gap, what);
        }
    }

    private void askMore(int kind, int gap, int what) {
        if (kind < 46) {
            int birth = number(3);
            due("ofAge " + birth + " " + gap, x.ofAge(birth, gap), model.ofAge(birth, gap));
        } else if (kind < 48) {
            int d = number(12);
            due("agree " + d + " " + gap, x.agree(d, gap), model.agree(d, gap));
        } else if (kind == 48) {
            int party = about(4);
            due("net " + party, x.net(party), model.net(party));
        } else if (kind == 49) {
            due("payings", x.payings(), model.payings());
        } else if (kind < 52) {
            int set = number(8192) & number(8192);
            int a = number(13);
            int b = number(13);
            due("strike " + set + " " + a + " " + b + " " + what, x.strike(set, a, b, what), model.strike(set, a, b, what));
        } else if (kind < 55) {
            int n = number(11);
            int years = below(4) == 0 ? about(1024) : spaced();
            due("rule " + n + " " + years + " " + what, x.rule(n, years, what), model.rule(n, years, what));
        } else if (kind < 58) {
            int n = number(7);
            int k = about(7);
            int tenths = number(11);
            boolean upper = below(2) == 0;
            due("slips " + n + " " + k + " " + tenths + " " + upper, x.slips(n, k, tenths, upper),
                model.slips(n, k, tenths, upper));
        } else {
            int m = number(41);
            due("years " + m, x.years(m), model.years(m));
        }
    }

    private int spaced() {
        int apart = 1 + below(10);
        int years = 0;
        for (int year = below(apart); year < 10; year += apart) {
            years |= 1 << year;
        }
        return years >> below(3);
    }
}
