/** Promises 21 and 22: who is owed what, and the fewest payings. */
public final class DebtsTest {
    private static final Check check = new Check();

    public static void main(String[] args) {
        net();
        payingsOfPairs();
        payingsOfMore();
        check.end("DebtsTest");
    }

    private static void nets(String text, int... wants) {
        SkippedDay x = Check.opened(text);
        for (int party = 0; party < wants.length; party++) {
            check.due("21: " + text + " net(" + party + ")", x.net(party), 100 + wants[party]);
        }
    }

    private static void net() {
        nets("M", 0, 0, 0, 0);
        nets("MO019", -9, 9, 0, 0);
        nets("MO329", 0, 0, 9, -9);
        nets("MO015O105", 0, 0, 0, 0);
        nets("MO015O103", -2, 2, 0, 0);
        nets("MO019O019O019O019O019O019", -54, 54, 0, 0);
        nets("MO011O022O033O124O235", -6, -3, 1, 8);
        check.due("21: of nothing", new SkippedDay().net(3), 100);
    }

    private static void payings(String text, int want) {
        check.due("22: payings of " + text, Check.opened(text).payings(), want);
    }

    private static void payingsOfPairs() {
        check.due("22: of nothing", new SkippedDay().payings(), 0);
        payings("M", 0);
        payings("MO015O105", 0);
        payings("MO012O232O312O122O202", 1);
        payings("MO019", 1);
        payings("MO329O321", 1);
        payings("MO015O233", 2);
        payings("MO015O235", 2);
        payings("MO025O133", 2);
        payings("MO035O121", 2);
    }

    private static void payingsOfMore() {
        payings("MO011O021", 2);
        payings("MO011O122", 2);
        payings("MO131O232O323", 1);
        payings("MO013O024O036", 3);
        payings("MO011O234O122", 3);
        payings("MO015O122O235", 2);
        payings("MO017O125O237", 2);
        // 0 and 2 owe 3 each, 1 and 3 are owed 3 each: cut in two either way
        payings("MO013O233", 2);
        // the third PARTY owes as much as it is owed
        payings("MO012O021O231", 2);
        payings("MO011O022O033O124O235", 3);
    }
}
