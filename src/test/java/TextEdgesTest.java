/** The edges of promises 1 to 5. Each test is headed by the words of the document that it holds. */
public final class TextEdgesTest {
    private static final Check check = new Check();

    private static final String DAYS = "abcdefghijkl";
    private static final String FIGURES = "0123456789";
    private static final String KINDS = "CBTO";

    private static final String CONTRACT = "Ca0aa0", BIRTH = "Ba0", TIDE = "T20", DEBT = "O011";

    public static void main(String[] args) {
        aByte();
        sixtyFourAtMost();
        fullThere();
        wipe();
        atFirstNothing();
        theM();
        aContract();
        aBirth();
        aTide();
        anotherParty();
        partsNoneOrMore();
        eachKindForItself();
        onlyNotAtItsEnd();
        whateverCameBehind();
        lengthSetAside();
        openedNumbers();
        openedLate();
        openedAnew();
        readAsTold();
        seenAndSeedStay();
        faultOpensNothing();
        check.end("TextEdgesTest");
    }

    private static String times(int count, String part) {
        return part.repeat(count);
    }

    private static int faultOf(String text) {
        SkippedDay x = new SkippedDay();
        Check.write(x, text);
        return x.fault();
    }

    /** "A byte (0 .. 255) comes behind THE TEXT: how long it is. BAD" */
    private static void aByte() {
        for (int letter = 0; letter <= 255; letter++) {
            SkippedDay x = new SkippedDay();
            check.due("2: write(" + letter + ")", x.write(letter), 1);
            check.due("2: " + letter + " is kept as it is", x.fault(), letter == 'M' ? Check.NONE : 0);
        }
        SkippedDay x = new SkippedDay();
        int[] none = {-1, 256, 256 + 'M', 'M' - 256, Integer.MIN_VALUE, Integer.MAX_VALUE};
        for (int letter : none) {
            check.due("2: write(" + letter + ")", x.write(letter), Check.BAD);
            check.due("2: nothing came", x.about(9), 0);
        }
    }

    /** "THE TEXT is bytes (64 at most)" */
    private static void sixtyFourAtMost() {
        SkippedDay x = new SkippedDay();
        for (int length = 1; length <= 64; length++) {
            check.due("2: byte " + length, x.write(0), length);
        }
        for (int more = 0; more < 3; more++) {
            check.due("2: the 65th", x.write('M'), Check.FULL);
            check.due("2: 64 are left", x.about(9), 64);
        }
        check.due("3: 64 were there", x.wipe(), 64);
        for (int length = 1; length <= 64; length++) {
            check.due("2: byte " + length + " once more", x.write('M'), length);
        }
        check.due("2: the 65th once more", x.write('M'), Check.FULL);
    }

    /** "BAD; FULL: there are 64", and "Of several what is told first" */
    private static void fullThere() {
        SkippedDay x = new SkippedDay();
        Check.write(x, times(64, "M"));
        check.due("2: below a byte, and full", x.write(-1), Check.BAD);
        check.due("2: above a byte, and full", x.write(256), Check.BAD);
        check.due("2: the least byte, and full", x.write(0), Check.FULL);
        check.due("2: the greatest byte, and full", x.write(255), Check.FULL);
        check.due("2: nothing came over the first byte", x.fault(), 1);
    }

    /** "THE TEXT is empty: how long it was" */
    private static void wipe() {
        for (int length = 0; length <= 64; length++) {
            SkippedDay x = new SkippedDay();
            Check.write(x, times(length, "M"));
            check.due("3: there were " + length, x.wipe(), length);
            check.due("3: empty", x.about(9), 0);
            check.due("3: the fault of nothing", x.fault(), 0);
            check.due("3: empty already", x.wipe(), 0);
        }
    }

    /** "At first there is nothing." */
    private static void atFirstNothing() {
        SkippedDay x = new SkippedDay();
        for (int kind = 0; kind <= 3; kind++) {
            check.due("1: parts of kind " + kind, x.about(kind), 0);
        }
        check.due("1: the text", x.about(9), 0);
        check.due("1: an empty text is no case", x.fault(), 0);
        check.due("1: and can't be opened", x.open(), Check.LATE);
    }

    /** Of all bytes that may stand next just the told ones do; any other one is the fault. */
    private static void next(String ahead, String signs, boolean ends) {
        for (int letter = 0; letter <= 255; letter++) {
            SkippedDay x = new SkippedDay();
            Check.write(x, ahead);
            x.write(letter);
            int fitting = ends ? Check.NONE : ahead.length() + 1;
            int want = signs.indexOf(letter) >= 0 ? fitting : ahead.length();
            check.due("4: byte " + letter + " behind " + ahead, x.fault(), want);
        }
    }

    /** "A CASE is a TEXT: M, then PARTS" */
    private static void theM() {
        next("", "M", true);
        next("M", KINDS, false);
    }

    /** "Cskvem ... (letters a .. l ...), read by NAME (k 0: ... a letter) or by COUNT (k 1: ... 0 .. 9, a figure) ..." */
    private static void aContract() {
        next("MC", DAYS, false);
        for (char start : DAYS.toCharArray()) {
            next("MC" + start, "01", false);
        }
        next("MCa0", DAYS, false);
        next("MCl0", DAYS, false);
        next("MCa1", FIGURES, false);
        next("MCl1", FIGURES, false);
        next("MCa0l", DAYS, false);
        next("MCa19", DAYS, false);
        next("MCa0ll", FIGURES, true);
        next("MCa19l", FIGURES, true);
        next("MCa0ll9", KINDS, false);
    }

    /** "Bsa a BIRTH ... on DAY s (a letter); it is of age a (0 .. 9) days on" */
    private static void aBirth() {
        next("MB", DAYS, false);
        next("MBa", FIGURES, true);
        next("MBl", FIGURES, true);
        next("MBl9", KINDS, false);
    }

    /** "Tpo a TIDE ... each p (2 .. 9) days, first o (0 .. 9) days from the beginning on" */
    private static void aTide() {
        next("MT", "23456789", false);
        next("MT2", FIGURES, true);
        next("MT9", FIGURES, true);
        next("MT99", KINDS, false);
    }

    /** "Oijv one of PARTIES 0 .. 3 owes another one v (1 .. 9)" */
    private static void anotherParty() {
        next("MO", "0123", false);
        next("MO0", "123", false);
        next("MO1", "023", false);
        next("MO2", "013", false);
        next("MO3", "012", false);
        for (String pair : new String[] {"01", "03", "10", "12", "21", "23", "30", "32"}) {
            next("MO" + pair, "123456789", true);
        }
        next("MO329", KINDS, false);
    }

    /** "PARTS, none or more" with "5 at most", "3 at most", "3 at most", "6 at most" */
    private static void partsNoneOrMore() {
        check.due("4: none", faultOf("M"), Check.NONE);
        next("M" + times(4, CONTRACT), "CBTO", false);
        next("M" + times(5, CONTRACT), "BTO", false);
        next("M" + times(2, BIRTH), "CBTO", false);
        next("M" + times(3, BIRTH), "CTO", false);
        next("M" + times(2, TIDE), "CBTO", false);
        next("M" + times(3, TIDE), "CBO", false);
        next("M" + times(5, DEBT), "CBTO", false);
        next("M" + times(6, DEBT), "CBT", false);
    }

    /** "numbered as they are told, each kind for itself" */
    private static void eachKindForItself() {
        String mixed = times(3, BIRTH + TIDE + DEBT);
        next("M" + mixed, "CO", false);
        next("M" + mixed + times(4, CONTRACT), "CO", false);
        next("M" + mixed + times(5, CONTRACT), "O", false);
        next("M" + mixed + times(3, DEBT), "C", false);
        String birthsApart = BIRTH + CONTRACT + BIRTH + CONTRACT + BIRTH;
        next("M" + birthsApart, "CTO", false);
        SkippedDay x = Check.opened("MBb1" + "Cc13e0" + "T34" + "Bd5" + "O235" + "Cf0gh1" + "T67" + "O014");
        check.due("4: the first birth", x.ofAge(0, Check.NOWHERE), 2);
        check.due("4: the second birth", x.ofAge(1, Check.NOWHERE), 8);
        check.due("4: the first contract", x.contract(0, 0), 2);
        check.due("4: the second contract", x.contract(1, 0), 5);
    }

    /** "its length, if it is only not at its end; NONE: none" */
    private static void onlyNotAtItsEnd() {
        String text = "MCa0lb9Cl19l0Ba9T29O311";
        String ends = " 1 7 13 16 19 23 ";
        for (int length = 0; length <= text.length(); length++) {
            String some = text.substring(0, length);
            boolean atAnEnd = ends.contains(" " + length + " ");
            check.due("4: fault of " + some, faultOf(some), atAnEnd ? Check.NONE : length);
        }
    }

    /** "the first byte by which THE TEXT can be no CASE, whatever came behind it" */
    private static void whateverCameBehind() {
        String[] spoilt = {"X", "MX", "MCX", "MCaX", "MCa0X", "MCa1X", "MCa0aX", "MCa0aaX", "MBX", "MBaX", "MTX", "MT2X",
            "MOX", "MO0X", "MO01X", "MO00", "MT1", "MO010", "MCa2", "MCm"};
        String[] behind = {"", "M", "X", "Ba0", "Ca0aa0", "a0aa0", "0", "\0\u00ff"};
        for (String ahead : spoilt) {
            for (String more : behind) {
                check.due("4: fault of " + ahead + more, faultOf(ahead + more), ahead.length() - 1);
            }
        }
    }

    /** "(its length set aside)": a text that is full is only not at its end, though no byte can come. */
    private static void lengthSetAside() {
        String sixtyOne = "M" + times(5, CONTRACT) + times(3, BIRTH) + times(3, TIDE) + times(3, DEBT);
        check.due("4: of 61", faultOf(sixtyOne), Check.NONE);
        check.due("4: of 62", faultOf(sixtyOne + "O"), 62);
        check.due("4: of 63", faultOf(sixtyOne + "O0"), 63);
        check.due("4: of 64", faultOf(sixtyOne + "O01"), 64);
        check.due("4: the last one of 64 is wrong", faultOf(sixtyOne + "O00"), 63);
        String sixtyFour = "M" + times(5, CONTRACT) + times(3, BIRTH) + times(6, DEBT);
        check.due("4: a case of 64", faultOf(sixtyFour), Check.NONE);
        check.due("5: a case of 64 is opened", Check.opened(sixtyFour).about(3), 6);
        SkippedDay x = new SkippedDay();
        Check.write(x, sixtyOne + "O01");
        x.write('1');
        check.due("4: the byte that was too many is not there", x.fault(), 64);
        check.due("5: and it is no case", x.open(), Check.LATE);
    }

    /** "10 times CONTRACTS, and BIRTHS" */
    private static void openedNumbers() {
        for (int contracts = 0; contracts <= 5; contracts++) {
            for (int births = 0; births <= 3; births++) {
                SkippedDay x = new SkippedDay();
                Check.write(x, "M" + times(3, TIDE) + times(births, BIRTH) + times(contracts, CONTRACT));
                check.due("5: " + contracts + " and " + births, x.open(), 10 * contracts + births);
                check.due("5: contracts", x.about(0), contracts);
                check.due("5: births", x.about(1), births);
            }
        }
    }

    /** "LATE: a FAULT" */
    private static void openedLate() {
        String text = "MCa0lb9Cl19l0Ba9T29O311";
        for (int length = 0; length <= text.length(); length++) {
            SkippedDay x = new SkippedDay();
            Check.write(x, text.substring(0, length));
            boolean late = x.fault() != Check.NONE;
            check.due("5: open at " + length, x.open() == Check.LATE ? 1 : 0, late ? 1 : 0);
        }
        String[] faulty = {"m", "MM", "MCa0lb9X", "MBa9M", "MO300", times(4, "MBa9"), "M" + times(6, CONTRACT)};
        for (String some : faulty) {
            SkippedDay x = new SkippedDay();
            Check.write(x, some);
            check.due("5: open of " + some, x.open(), Check.LATE);
            check.due("5: nothing of it is the case", x.about(0) + x.about(1) + x.about(3), 0);
        }
    }

    /** "THE TEXT itself stays", and "When THE CASE is made anew, the skipped day is nowhere (NONE), ..." */
    private static void openedAnew() {
        SkippedDay x = Check.opened("MCc13e0Ca0cc3");
        x.put(0);
        x.turnVoid(1);
        x.readOtherwise(0);
        check.due("5: once more", x.open(), 20);
        check.due("5: the text stays", x.about(9), 13);
        check.due("5: where it is", x.about(4), Check.NONE);
        check.due("5: it is nowhere already", x.put(Check.NOWHERE), Check.LATE);
        check.due("5: what is void", x.about(5), 0);
        check.due("5: how it is read", x.contract(0, 1), 1);
        check.due("5: nothing is to be undone", x.undo(), Check.LATE);
    }

    /** "each is read as told": by the text that is opened, not by the one before */
    private static void readAsTold() {
        SkippedDay x = Check.opened("MCa10a0Ca0aa0Ca0aa0");
        x.readOtherwise(1);
        x.turnVoid(2);
        Check.write(x, "MCa0aa0Ca0aa0Ca10a0");
        x.open();
        check.due("5: by name now", x.contract(0, 1), 0);
        check.due("5: by name still", x.contract(1, 1), 0);
        check.due("5: by count now", x.contract(2, 1), 1);
        check.due("5: none is void", x.about(5), 0);
    }

    /** "SEEN, THE SEED stay" */
    private static void seenAndSeedStay() {
        SkippedDay x = Check.opened("MCa0aa0");
        x.seed(Long.MIN_VALUE);
        for (int seen = 0; seen < 6; seen++) {
            x.see(0, 5);
        }
        x.open();
        check.due("5: six are seen", x.about(8), 6);
        check.due("5: the same six", x.meant(0), 0);
        check.due("5: the seed", x.seed(0), Long.MIN_VALUE);
    }

    /** A FAULT is told, and THE CASE stays as it was opened. */
    private static void faultOpensNothing() {
        SkippedDay x = Check.opened("MCb0ba5Ba9");
        Check.write(x, "MCa0aa0Ca0aa0");
        check.due("4: none", x.fault(), Check.NONE);
        check.due("6: one contract", x.about(0), 1);
        check.due("7: that begins on DAY 1", x.contract(0, 0), 1);
        check.due("6: one birth", x.about(1), 1);
    }
}
