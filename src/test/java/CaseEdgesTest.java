/** The edges of promises 6 and 7, and of how days are counted. Each test is headed by the words that it holds. */
public final class CaseEdgesTest {
    private static final Check check = new Check();

    private static final String DAYS = "abcdefghijkl";

    /** All five are broken wherever the day is: each ends ahead of its beginning. */
    private static final String FIVE = "M" + "Cb0ba5".repeat(5);

    private static final String IN_NONE = " ", IN_ALL = " 0 1 2 3 4 5 6 7 8 9 10 11 12 13 ";

    /** On which day from the beginning each DAY comes, a row for each GAP and one for nowhere. */
    private static final int[][] COMINGS = {
        {1, 2, 3, 4, 5, 6, 7, 8, 9, 10, 11, 12},
        {0, 2, 3, 4, 5, 6, 7, 8, 9, 10, 11, 12},
        {0, 1, 3, 4, 5, 6, 7, 8, 9, 10, 11, 12},
        {0, 1, 2, 4, 5, 6, 7, 8, 9, 10, 11, 12},
        {0, 1, 2, 3, 5, 6, 7, 8, 9, 10, 11, 12},
        {0, 1, 2, 3, 4, 6, 7, 8, 9, 10, 11, 12},
        {0, 1, 2, 3, 4, 5, 7, 8, 9, 10, 11, 12},
        {0, 1, 2, 3, 4, 5, 6, 8, 9, 10, 11, 12},
        {0, 1, 2, 3, 4, 5, 6, 7, 9, 10, 11, 12},
        {0, 1, 2, 3, 4, 5, 6, 7, 8, 10, 11, 12},
        {0, 1, 2, 3, 4, 5, 6, 7, 8, 9, 11, 12},
        {0, 1, 2, 3, 4, 5, 6, 7, 8, 9, 10, 12},
        {0, 1, 2, 3, 4, 5, 6, 7, 8, 9, 10, 11},
        {0, 1, 2, 3, 4, 5, 6, 7, 8, 9, 10, 11}};

    public static void main(String[] args) {
        aboutLeast();
        aboutMost();
        aboutWhat();
        aboutGap();
        contractLeastAndGreatest();
        contractWhat();
        contractVoid();
        nothingOfAFormerCase();
        noFormerQuarrel();
        daysOneLater();
        countOneLater();
        behindAll();
        endsLater();
        endsLaterByTheDay();
        lastsLess();
        lastsLessByTheDay();
        lastsNothing();
        check.end("CaseEdgesTest");
    }

    /** Each number that is told of THE CASE, at its least: "At first there is nothing." */
    private static void aboutLeast() {
        SkippedDay fresh = new SkippedDay();
        SkippedDay empty = Check.opened("M");
        for (int what = 0; what <= 8; what++) {
            int want = what == 4 ? Check.NONE : 0;
            check.due("6: about(" + what + ") of a new one", fresh.about(what), want);
            check.due("6: about(" + what + ") of M", empty.about(what), want);
        }
        check.due("6: about(9) of a new one", fresh.about(9), 0);
        check.due("6: about(9) of M", empty.about(9), 1);
    }

    /** Each number that is told of THE CASE, at its greatest. */
    private static void aboutMost() {
        SkippedDay x = Check.opened(FIVE + "Ba0".repeat(3) + "O011".repeat(6));
        check.due("6: five contracts", x.about(0), 5);
        check.due("6: three births", x.about(1), 3);
        check.due("6: six debts", x.about(3), 6);
        check.due("6: three tides", Check.opened("MT20T20T20").about(2), 3);
        check.due("6: all are broken", x.about(6), 31);
        check.due("6: 64 bytes", x.about(9), 64);
        for (int contract = 0; contract < 5; contract++) {
            x.turnVoid(contract);
        }
        check.due("6: all are void", x.about(5), 31);
        check.due("6: void ones are not broken", x.about(6), 0);
        for (int gap = 0; gap <= 12; gap++) {
            x.put(gap);
        }
        check.due("6: the last gap", x.about(4), 12);
        check.due("6: fourteen acts", x.about(7), 14);
        for (int seen = 0; seen < 7; seen++) {
            x.see(0, 0);
        }
        check.due("6: six are seen", x.about(8), 6);
    }

    /** "what = 0 .. 9", "BAD" */
    private static void aboutWhat() {
        SkippedDay x = Check.opened("MT20T30");
        check.due("6: the least one below", x.about(-1), Check.BAD);
        check.due("6: the first one", x.about(0), 0);
        check.due("6: the last one", x.about(9), 7);
        check.due("6: the first one above", x.about(10), Check.BAD);
    }

    /** "where the skipped day is (4: GAP; NONE)" */
    private static void aboutGap() {
        SkippedDay x = new SkippedDay();
        check.due("6: nowhere at first", x.about(4), Check.NONE);
        for (int gap = 0; gap <= 12; gap++) {
            x.put(gap);
            check.due("6: in gap " + gap, x.about(4), gap);
        }
        x.put(13);
        check.due("6: nowhere", x.about(4), Check.NONE);
    }

    /** "s (letters a .. l are DAYS 0 .. 11) ... v days on, 0 .. 9 ... DAY e ... m (0 .. 9)" */
    private static void contractLeastAndGreatest() {
        for (int day = 0; day < 12; day++) {
            char letter = DAYS.charAt(day);
            SkippedDay x = Check.opened("MC" + letter + "0aa0" + "Ca0" + letter + "a0" + "Ca0a" + letter + "0");
            check.due("7: begins on " + letter, x.contract(0, 0), day);
            check.due("7: v is " + letter, x.contract(1, 2), day);
            check.due("7: is to end by " + letter, x.contract(2, 3), day);
            check.due("7: by name", x.contract(0, 1), 0);
        }
        for (int figure = 0; figure <= 9; figure++) {
            SkippedDay x = Check.opened("MCa1" + figure + "a0" + "Ca0aa" + figure);
            check.due("7: v is " + figure, x.contract(0, 2), figure);
            check.due("7: by count", x.contract(0, 1), 1);
            check.due("7: is to last " + figure, x.contract(1, 4), figure);
        }
    }

    /** "what = 0 .. 6", "UNKNOWN; BAD" */
    private static void contractWhat() {
        SkippedDay x = Check.opened("MCb12d3");
        check.due("7: the one below", x.contract(0, -1), Check.BAD);
        check.due("7: the first one", x.contract(0, 0), 1);
        check.due("7: the last one", x.contract(0, 6), 3);
        check.due("7: the one above", x.contract(0, 7), Check.BAD);
        check.due("7: a contract below", x.contract(-1, 0), Check.UNKNOWN);
        check.due("7: a contract above", x.contract(1, 0), Check.UNKNOWN);
        check.due("7: neither the contract nor what", x.contract(1, 7), Check.UNKNOWN);
    }

    /** "1 if it is VOID (5)" */
    private static void contractVoid() {
        SkippedDay x = Check.opened(FIVE);
        for (int contract = 0; contract < 5; contract++) {
            check.due("7: it counts at first", x.contract(contract, 5), 0);
            x.turnVoid(contract);
            check.due("7: it is void", x.contract(contract, 5), 1);
            check.due("7: the next one is not", contract < 4 ? x.contract(contract + 1, 5) : 0, 0);
            x.turnVoid(contract);
            check.due("7: it counts again", x.contract(contract, 5), 0);
        }
    }

    /** "THE CASE is made anew": of more parts before, by one case and by another, none is left behind those told now. */
    private static void nothingOfAFormerCase() {
        SkippedDay x = Check.opened(FIVE);
        Check.write(x, "M" + "O239".repeat(6) + "T20".repeat(3) + "Ba9".repeat(3));
        x.open();
        Check.write(x, "MO011T50Cb0bb0");
        for (int time = 0; time < 3; time++) {
            x.open();
            check.due("6: one contract", x.about(0), 1);
            check.due("6: no birth", x.about(1), 0);
            check.due("6: none is broken", x.about(6), 0);
            check.due("7: the next contract", x.contract(1, 0), Check.UNKNOWN);
            check.due("13: none is broken where best", x.best(0, 1), 0);
            check.due("15: none is to be dropped", x.drop(), 0);
            check.due("19: the first birth", x.ofAge(0, 0), Check.UNKNOWN);
            check.due("20: one tide", x.agree(0, Check.NOWHERE), 1);
            check.due("21: of the former debts", x.net(2), 100);
            check.due("21: of the one", x.net(0), 99);
            check.due("28: none is broken", x.keep(0), 0);
        }
    }

    /** The same of a quarrel: with the day in GAPS 3 and 4 alone the one holds, in 1 and 2 alone the others did. */
    private static void noFormerQuarrel() {
        SkippedDay x = Check.opened("MCc13e0" + "Ca0cc3".repeat(4));
        x.open();
        check.due("14: it quarrels", x.quarrel(), 1);
        Check.write(x, "MCc13e0");
        for (int time = 0; time < 3; time++) {
            x.open();
            check.due("14: there is none to quarrel with", x.quarrel(), Check.NONE);
            check.due("15: all of one hold", x.drop(), 0);
        }
    }

    /** "GAP g is ahead of DAY g; 12: behind all", "DAYS g .. 11 come one later" */
    private static void daysOneLater() {
        for (int day = 0; day < 12; day++) {
            SkippedDay x = Check.opened("MCa0" + DAYS.charAt(day) + "l0");
            for (int place = 0; place <= 13; place++) {
                x.put(place);
                check.due("7: DAY " + day + " with the day in " + place, x.contract(0, 6), COMINGS[place][day]);
            }
        }
    }

    /** "by COUNT on the day that is v later", v being 0 or 9 */
    private static void countOneLater() {
        for (int day = 0; day < 12; day++) {
            char letter = DAYS.charAt(day);
            SkippedDay x = Check.opened("MC" + letter + "10l0" + "C" + letter + "19l0");
            for (int place = 0; place <= 13; place++) {
                x.put(place);
                int coming = COMINGS[place][day];
                check.due("7: none behind DAY " + day + " in " + place, x.contract(0, 6), coming);
                check.due("7: nine behind DAY " + day + " in " + place, x.contract(1, 6), coming + 9);
            }
        }
    }

    /** "(also behind all)" */
    private static void behindAll() {
        SkippedDay x = Check.opened("MCl11l0Cl10l0");
        check.due("7: the first day behind all", x.contract(0, 6), 12);
        check.due("7: the last one of all", x.contract(1, 6), 11);
        check.due("6: behind all is later than DAY 11", x.about(6), 1);
        x.put(12);
        check.due("7: behind DAY 11 is the skipped day", x.contract(0, 6), 12);
        check.due("6: that is later than DAY 11 too", x.about(6), 1);
        x.put(11);
        check.due("7: behind all, one later", x.contract(0, 6), 13);
        check.due("7: DAY 11, one later", x.contract(1, 6), 12);
        check.due("6: still only the one", x.about(6), 1);
    }

    /** The one contract is BROKEN with the day in the told places, and in no other. */
    private static void brokenIn(String contract, String places) {
        SkippedDay x = Check.opened("M" + contract);
        for (int place = 0; place <= 13; place++) {
            boolean broken = places.contains(" " + place + " ");
            check.due("12: " + contract + " in " + place, x.broken(place), broken ? 1 : 0);
        }
    }

    /** "BROKEN, if it ends later than DAY e comes": on that very day it is not. */
    private static void endsLater() {
        for (int day = 0; day < 11; day++) {
            char end = DAYS.charAt(day);
            char next = DAYS.charAt(day + 1);
            brokenIn("Ca0" + end + end + "0", IN_NONE);
            brokenIn("Ca0" + end + next + "0", IN_NONE);
            brokenIn("Ca0" + next + end + "0", IN_ALL);
        }
        brokenIn("Ca0ll0", IN_NONE);
        brokenIn("Ca0lk0", IN_ALL);
        brokenIn("Ca10a0", IN_NONE);
        brokenIn("Cl10l0", IN_NONE);
        brokenIn("Cl11l0", IN_ALL);
    }

    /** A count that would end a day behind DAY e ends in time just with the skipped day in between, in GAPS s + 1 .. e. */
    private static void endsLaterByTheDay() {
        brokenIn("Cb13e0", IN_NONE);
        brokenIn("Cb13d0", " 0 1 4 5 6 7 8 9 10 11 12 13 ");
        brokenIn("Cb13c0", IN_ALL);
        brokenIn("Ca11a0", IN_ALL);
        brokenIn("Cc19k0", " 0 1 2 11 12 13 ");
        brokenIn("Cc19l0", IN_NONE);
    }

    /** "lasts (from its beginning to its end) less than m days": just as long is enough. */
    private static void lastsLess() {
        brokenIn("Ca13l3", IN_NONE);
        brokenIn("Ca13l4", IN_ALL);
        brokenIn("Ca19l9", IN_NONE);
        brokenIn("Ca18l9", IN_ALL);
        brokenIn("Cc0ll9", IN_NONE);
        brokenIn("Ca0kl9", IN_NONE);
        brokenIn("Ca0hl9", IN_ALL);
    }

    /** By name it lasts a day longer with the skipped day inside, in GAPS s + 1 .. v. */
    private static void lastsLessByTheDay() {
        brokenIn("Ca0dl3", IN_NONE);
        brokenIn("Ca0dl4", " 0 4 5 6 7 8 9 10 11 12 13 ");
        brokenIn("Cd0ll9", " 0 1 2 3 12 13 ");
        brokenIn("Ca0dl5", IN_ALL);
        brokenIn("Ck0ll2", " 0 1 2 3 4 5 6 7 8 9 10 12 13 ");
    }

    /** "to last m (0 .. 9) at least": 0 is enough for one that ends as it begins, not for one that ends ahead of that. */
    private static void lastsNothing() {
        brokenIn("Cb0bl0", IN_NONE);
        brokenIn("Cb0al0", IN_ALL);
        brokenIn("Cb10l0", IN_NONE);
        brokenIn("Cb10l1", IN_ALL);
        brokenIn("Cb0bl1", IN_ALL);
        brokenIn("Cl0al0", IN_ALL);
    }
}
