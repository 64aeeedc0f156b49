import java.util.function.Consumer;
import java.util.function.Supplier;

/** How an object stands: made alike as often as one likes, with all that can be learnt of it, to see what a call changes. */
final class Stand {
    final String name;
    final int contracts;
    final int births;
    /** What is learnt of one that has had no call more. */
    final String untouched;
    private final Supplier<SkippedDay> made;

    private Stand(String name, int contracts, int births, Supplier<SkippedDay> made) {
        this.name = name;
        this.contracts = contracts;
        this.births = births;
        this.made = made;
        untouched = learnt(made.get());
    }

    SkippedDay make() {
        return made.get();
    }

    static Stand fresh() {
        return new Stand("a new one", 0, 0, SkippedDay::new);
    }

    /** A few of each; in THE TEXT what is only not at its end; something is kept in SLOT 1 alone. */
    static Stand some() {
        return new Stand("one with some", 2, 1, Stand::madeOfSome);
    }

    /** As many of each as there is room for, but TIDES; something is kept in SLOT 0 alone. */
    static Stand full() {
        return new Stand("a full one", 5, 3, Stand::madeFull);
    }

    /** The same with something done to it that leaves its contracts and births as they are. */
    Stand then(String what, Consumer<SkippedDay> done) {
        return new Stand(name + " with " + what, contracts, births, () -> {
            SkippedDay x = made.get();
            done.accept(x);
            return x;
        });
    }

    private static SkippedDay madeOfSome() {
        SkippedDay x = Check.opened("MCc13e0Ca0ll3Ba9T20O019");
        Check.write(x, "MCc13f0Cb0");
        x.put(3);
        x.turnVoid(1);
        x.keep(1);
        x.turnVoid(1);
        x.put(4);
        x.see(0, 4);
        x.seed(-5);
        return x;
    }

    private static SkippedDay madeFull() {
        SkippedDay x = Check.opened("MCc13e0Ca0cc3Ck0ll1Cb0kl0Cl19l9" + "Ba9Bl0Bk2" + "O019O123O231O302O213O137");
        x.put(2);
        x.turnVoid(1);
        x.readOtherwise(0);
        x.keep(0);
        for (int gap = 3; gap <= 12; gap++) {
            x.put(gap);
        }
        x.readOtherwise(4);
        x.turnVoid(3);
        x.turnVoid(0);
        int[][] seen = {{0, 3}, {0, 3}, {1, 2}, {2, 11}, {4, 9}, {3, 10}};
        for (int[] one : seen) {
            x.see(one[0], one[1]);
        }
        x.seed(Long.MIN_VALUE);
        return x;
    }

    /** All that can be learnt of an object, by some 380 calls that change it in the end. */
    static String learnt(SkippedDay x) {
        StringBuilder row = new StringBuilder(Check.all(x));
        row.append(" acts");
        for (int act = 0; act <= 14; act++) {
            row.append(' ').append(x.undo()).append(standing(x));
        }
        row.append(" seen");
        for (int place = 0; place <= 13; place++) {
            x.put(place);
            for (int contract = 0; contract < 5; contract++) {
                row.append(' ').append(x.meant(contract));
            }
        }
        row.append(" kept");
        for (int slot = 0; slot <= 1; slot++) {
            row.append(' ').append(x.again(slot)).append(standing(x));
        }
        row.append(" text");
        for (char letter : "dd2".toCharArray()) {
            row.append(' ').append(x.write(letter));
        }
        row.append(' ').append(x.open());
        return row.append(Check.all(x)).toString();
    }

    private static String standing(SkippedDay x) {
        StringBuilder row = new StringBuilder();
        row.append('/').append(x.about(4)).append('/').append(x.about(5));
        for (int contract = 0; contract < 5; contract++) {
            row.append('/').append(x.contract(contract, 1));
        }
        return row.toString();
    }
}
