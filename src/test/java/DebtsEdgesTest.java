/** The edges of promises 21 and 22. Each test is headed by the words of the document that it holds. */
public final class DebtsEdgesTest {
    private static final Check check = new Check();

    public static void main(String[] args) {
        netOfWhom();
        netLeastAndGreatest();
        netOfEachPair();
        payingsOfNothing();
        payingsOfNets();
        payingsOfPairs();
        payingsOfAll();
        check.end("DebtsEdgesTest");
    }

    /** "UNKNOWN: party (0 .. 3)" */
    private static void netOfWhom() {
        SkippedDay x = Check.opened("MO039");
        check.due("21: below the first", x.net(-1), Check.UNKNOWN);
        check.due("21: the first", x.net(0), 91);
        check.due("21: the last", x.net(3), 109);
        check.due("21: behind the last", x.net(4), Check.UNKNOWN);
        SkippedDay fresh = new SkippedDay();
        check.due("21: without a debt", fresh.net(3), 100);
        check.due("21: behind the last, without a debt", fresh.net(4), Check.UNKNOWN);
    }

    /** "NET, and 100", "6 at most", "v (1 .. 9)" */
    private static void netLeastAndGreatest() {
        SkippedDay x = Check.opened("M" + "O309".repeat(6));
        check.due("21: the least", x.net(3), 100 - 54);
        check.due("21: the greatest", x.net(0), 100 + 54);
        check.due("21: nothing", x.net(1), 100);
        SkippedDay one = Check.opened("MO121");
        check.due("21: one owed", one.net(1), 99);
        check.due("21: one to be had", one.net(2), 101);
    }

    /** "what it is owed less what it owes, by all debts", for each who owes and each other one */
    private static void netOfEachPair() {
        for (int debtor = 0; debtor < 4; debtor++) {
            for (int creditor = 0; creditor < 4; creditor++) {
                if (debtor != creditor) {
                    String debt = "O" + debtor + creditor + 7;
                    SkippedDay x = Check.opened("M" + debt);
                    for (int party = 0; party < 4; party++) {
                        int want = party == debtor ? 93 : party == creditor ? 107 : 100;
                        check.due("21: of " + party + " by " + debt, x.net(party), want);
                    }
                    check.due("22: of " + debt, x.payings(), 1);
                }
            }
        }
    }

    private static void payings(String debts, int want) {
        check.due("22: payings of " + debts, Check.opened("M" + debts).payings(), want);
    }

    /** "the fewest payings by which all NETS come to nothing": none, where all have come to it */
    private static void payingsOfNothing() {
        check.due("22: of a new one", new SkippedDay().payings(), 0);
        payings("", 0);
        payings("O019O109", 0);
        payings("O015O125O205", 0);
        payings("O011O121O231O301", 0);
    }

    /** "PARTIES whose NET is not nothing less the most sets": two, three and four that are one set */
    private static void payingsOfNets() {
        payings("O231", 1);
        payings("O011O122O231", 2);
        payings("O019O029", 2);
        payings("O011O022O033", 3);
        payings("O101O202O303", 3);
        payings("O014O131O021", 3);
    }

    /** "sets into which these can be cut so that each comes to nothing by itself": two pairs, of each kind */
    private static void payingsOfPairs() {
        payings("O012O233", 2);
        payings("O012O232", 2);
        payings("O022O133", 2);
        payings("O032O123", 2);
        payings("O012O323", 2);
        payings("O312O203", 2);
        // a debt between the pairs, so that they come to nothing only by the nets
        payings("O013O123O235", 2);
        // the pairs are of nets a unit apart: one set
        payings("O013O121O235", 3);
    }

    /** All six debts count. */
    private static void payingsOfAll() {
        payings("O011O011O011O011O011O011", 1);
        payings("O011O011O011O011O011O231", 2);
        payings("O012O232O022O132O031O301", 1);
        payings("O012O232O022O132O031O123", 2);
    }
}
