/** Promises 6 and 7: what is told of the case and of a contract. */
public final class CaseTest {
    private static final Check check = new Check();

    public static void main(String[] args) {
        about();
        aboutAfterActs();
        contract();
        contractEnds();
        ofAFormerCase();
        check.end("CaseTest");
    }

    private static void about() {
        SkippedDay x = Check.opened("MCa0aa0T20Ba0O011T31O122Ca10a0T40O233O301");
        int[] want = {2, 1, 3, 4, Check.NONE, 0, 0, 0, 0, 41};
        for (int what = 0; what < want.length; what++) {
            check.due("6: about(" + what + ")", x.about(what), want[what]);
        }
    }

    private static void aboutAfterActs() {
        // with the day nowhere 0 is broken (it lasts 2, not 3); 1 never is; 2 always is
        SkippedDay x = Check.opened("MCa0cc3Ca0cc2Cb0ba5");
        check.due("6: broken", x.about(6), 5);
        x.put(0);
        check.due("6: in gap 0", x.about(4), 0);
        check.due("6: broken in gap 0", x.about(6), 5);
        x.put(12);
        check.due("6: in gap 12", x.about(4), 12);
        x.put(2);
        check.due("6: broken in gap 2", x.about(6), 4);
        x.turnVoid(2);
        check.due("6: void", x.about(5), 4);
        check.due("6: a void one is not broken", x.about(6), 0);
        x.turnVoid(0);
        check.due("6: void too", x.about(5), 5);
        check.due("6: acts", x.about(7), 5);
        x.see(0, 0);
        x.see(0, 0);
        check.due("6: seen", x.about(8), 2);
        x.write('?');
        check.due("6: bytes", x.about(9), 20);
        x.put(13);
        check.due("6: nowhere again", x.about(4), Check.NONE);
    }

    private static void row(SkippedDay x, int contract, int... want) {
        for (int what = 0; what < want.length; what++) {
            check.due("7: contract(" + contract + ", " + what + ")", x.contract(contract, what), want[what]);
        }
    }

    private static void contract() {
        SkippedDay x = Check.opened("MCc13f4Cb0ld9Cl19a0Ca0ab0Ck10l1");
        row(x, 0, 2, 1, 3, 5, 4, 0, 5);
        row(x, 1, 1, 0, 11, 3, 9, 0, 11);
        row(x, 2, 11, 1, 9, 0, 0, 0, 20);
        row(x, 3, 0, 0, 0, 1, 0, 0, 0);
        row(x, 4, 10, 1, 0, 11, 1, 0, 10);
        x.turnVoid(1);
        x.turnVoid(2);
        x.readOtherwise(0);
        x.readOtherwise(3);
        row(x, 0, 2, 0, 3, 5, 4, 0, 3);
        row(x, 1, 1, 0, 11, 3, 9, 1, 11);
        row(x, 2, 11, 1, 9, 0, 0, 1, 20);
        row(x, 3, 0, 1, 0, 1, 0, 0, 0);
        x.turnVoid(1);
        check.due("7: void no more", x.contract(1, 5), 0);
    }

    private static void contractEnds() {
        SkippedDay x = Check.opened("MCc13f0Cc0ff0Cl19l0Ca0ll0");
        int[][] ends = {
            {0, 6, 6, 21, 12}, {1, 6, 6, 21, 12}, {2, 6, 6, 21, 12}, {3, 5, 6, 21, 12}, {5, 5, 6, 21, 12},
            {6, 5, 5, 21, 12}, {11, 5, 5, 21, 12}, {12, 5, 5, 20, 11}, {13, 5, 5, 20, 11}};
        for (int[] end : ends) {
            x.put(end[0]);
            for (int contract = 0; contract < 4; contract++) {
                check.due("7: end of " + contract + " in " + end[0], x.contract(contract, 6), end[contract + 1]);
            }
        }
    }

    private static void ofAFormerCase() {
        SkippedDay x = Check.opened("MCb0ba5Cc13e0Ca0cc3Cb0ba5Ba0Ba0T20T20O011O239");
        Check.write(x, "MCa0aa0");
        for (int time = 0; time < 3; time++) {
            check.due("6: one contract is left", x.open(), 10);
            check.due("6: no births", x.about(1), 0);
            check.due("6: no tides", x.about(2), 0);
            check.due("6: no debts", x.about(3), 0);
            check.due("6: none is broken", x.about(6), 0);
            check.due("6: none quarrels", x.quarrel(), Check.NONE);
            check.due("6: none is dropped", x.drop(), 0);
            check.due("6: no tide agrees", x.agree(0, Check.NOWHERE), 0);
            check.due("6: nobody owes", x.net(3), 100);
            check.due("6: nobody pays", x.payings(), 0);
            check.due("7: the other one is unknown", x.contract(1, 0), Check.UNKNOWN);
        }
    }
}
