/** Promises 1 to 5: a new object, the text, its first fault, the case made of it. */
public final class TextTest {
    private static final Check check = new Check();

    public static void main(String[] args) {
        newObject();
        write();
        wipe();
        faultByForm();
        faultByNumber();
        faultByLength();
        open();
        check.end("TextTest");
    }

    private static void newObject() {
        SkippedDay x = new SkippedDay();
        int[] about = {0, 0, 0, 0, Check.NONE, 0, 0, 0, 0, 0};
        for (int what = 0; what < about.length; what++) {
            check.due("1: about(" + what + ")", x.about(what), about[what]);
        }
        check.due("1: fault", x.fault(), 0);
        check.due("1: contract", x.contract(0, 0), Check.UNKNOWN);
        check.due("1: undo", x.undo(), Check.LATE);
        check.due("1: seed", x.seed(1), 0);
        check.due("1: again(0)", x.again(0), Check.LATE);
        check.due("1: again(1)", x.again(1), Check.LATE);
        check.due("1: unsee", x.unsee(), 0);
        check.due("1: drop", x.drop(), 0);
        SkippedDay other = new SkippedDay();
        x.write('M');
        check.due("1: objects share nothing", other.about(9), 0);
    }

    private static void write() {
        SkippedDay x = new SkippedDay();
        check.due("2: least byte", x.write(0), 1);
        check.due("2: greatest byte", x.write(255), 2);
        check.due("2: below", x.write(-1), Check.BAD);
        check.due("2: above", x.write(256), Check.BAD);
        check.due("2: far below", x.write(Integer.MIN_VALUE), Check.BAD);
        check.due("2: far above", x.write(Integer.MAX_VALUE), Check.BAD);
        check.due("2: refused bytes are not there", x.about(9), 2);
        for (int length = 3; length <= 64; length++) {
            check.due("2: byte " + length, x.write('M'), length);
        }
        check.due("2: full", x.write('M'), Check.FULL);
        check.due("2: bad ahead of full", x.write(256), Check.BAD);
        check.due("2: still 64", x.about(9), 64);
        Check.write(x, "M");
        check.due("2: a byte above 127 is no letter", x.fault(), Check.NONE);
        x.write('C' + 128);
        check.due("2: a byte is kept whole", x.fault(), 1);
    }

    private static void wipe() {
        SkippedDay x = Check.opened("MBa5");
        check.due("3: how long it was", x.wipe(), 4);
        check.due("3: empty then", x.wipe(), 0);
        check.due("3: about", x.about(9), 0);
        check.due("3: fault", x.fault(), 0);
        check.due("3: the case stays", x.about(1), 1);
        check.due("3: written anew", x.write('M'), 1);
        check.due("3: nothing of the former text", x.fault(), Check.NONE);
    }

    private static void fault(String text, int place) {
        SkippedDay x = new SkippedDay();
        Check.write(x, text);
        check.due("4: fault of " + text, x.fault(), place);
        check.due("4: fault of " + text + " again", x.fault(), place);
    }

    private static void faultByForm() {
        String[] good = {"M", "MCa0aa0", "MCl0ll9", "MCa10a0", "MCa19l0", "MBa0", "MBl9", "MT20", "MT99",
            "MO011", "MO329", "MO103", "MBa0Cl19l9T20O301Ba0"};
        for (String text : good) {
            fault(text, Check.NONE);
        }
        fault("m", 0);
        fault("CM", 0);
        fault("MM", 1);
        fault("Mc", 1);
        fault("MD", 1);
        fault("M M", 1);
        fault("MCm", 2);
        fault("MC`", 2);
        fault("MCA", 2);
        fault("MC0", 2);
        fault("MCa2", 3);
        fault("MCa/", 3);
        fault("MCaa", 3);
        fault("MCa0m", 4);
        fault("MCa00", 4);
        fault("MCa1a", 4);
        fault("MCa1:", 4);
        fault("MCa1/", 4);
        fault("MCa0am", 5);
        fault("MCa0a9", 5);
        fault("MCa19m", 5);
        fault("MCa0aa:", 6);
        fault("MCa0aa/", 6);
        fault("MCa0aaa", 6);
        fault("MCa0aa0X", 7);
    }

    private static void faultByNumber() {
        fault("MB0", 2);
        fault("MBm", 2);
        fault("MBaa", 3);
        fault("MBa:", 3);
        fault("MT1", 2);
        fault("MT:", 2);
        fault("MTa", 2);
        fault("MT2a", 3);
        fault("MT2/", 3);
        fault("MO4", 2);
        fault("MO/", 2);
        fault("MO00", 3);
        fault("MO33", 3);
        fault("MO04", 3);
        fault("MO0a", 3);
        fault("MO010", 4);
        fault("MO01:", 4);
        fault("MO01a", 4);
        fault("MXCa0aa0", 1);
        fault("MCmX", 2);
    }

    private static void faultByLength() {
        fault("", 0);
        fault("MC", 2);
        fault("MCa", 3);
        fault("MCa0", 4);
        fault("MCa1", 4);
        fault("MCa0a", 5);
        fault("MCa0aa", 6);
        fault("MB", 2);
        fault("MBa", 3);
        fault("MT", 2);
        fault("MT2", 3);
        fault("MO", 2);
        fault("MO0", 3);
        fault("MO01", 4);
        String five = "MCa0aa0Ca0aa0Ca0aa0Ca0aa0Ca0aa0";
        fault(five, Check.NONE);
        fault(five + "C", 31);
        fault(five + "B", 32);
        fault("MBa0Ba0Ba0", Check.NONE);
        fault("MBa0Ba0Ba0B", 10);
        fault("MT20T20T20", Check.NONE);
        fault("MT20T20T20T", 10);
        String six = "O011O012O013O014O015O016";
        fault("M" + six, Check.NONE);
        fault("M" + six + "O", 25);
        fault(five + six + "Ba0Ba0Ba0", Check.NONE);
        fault(five + six + "Ba0Ba0T2", 63);
        fault(five + six + "Ba0T20T2B", 63);
        // no byte can come behind the 64th, and yet it is only not at its end
        fault(five + "Ba0Ba0Ba0T20T20T20O011O012O013O01", 64);
    }

    private static void open() {
        SkippedDay x = new SkippedDay();
        Check.write(x, "MCa0aa0Ca0aa0Ca0aa0Ca0aa0Ca0aa0Ba0Ba0Ba0");
        check.due("5: most", x.open(), 53);
        Check.write(x, "MT20O011O012");
        check.due("5: none", x.open(), 0);
        check.due("5: tides", x.about(2), 1);
        check.due("5: debts", x.about(3), 2);
        check.due("5: the text stays", x.about(9), 12);
        Check.write(x, "MCc13f0Cb0dd2Be4");
        check.due("5: some", x.open(), 21);
        x.put(3);
        x.turnVoid(1);
        x.readOtherwise(0);
        x.see(1, 4);
        x.seed(77);
        x.keep(0);
        x.keep(1);
        check.due("5: made anew of the same text", x.open(), 21);
        check.due("5: nowhere", x.about(4), Check.NONE);
        check.due("5: none void", x.about(5), 0);
        check.due("5: read as told", x.contract(0, 1), 1);
        check.due("5: the other read as told", x.contract(1, 1), 0);
        check.due("5: no acts", x.about(7), 0);
        check.due("5: nothing to undo", x.undo(), Check.LATE);
        check.due("5: slot 0 is gone", x.again(0), Check.LATE);
        check.due("5: slot 1 is gone", x.again(1), Check.LATE);
        check.due("5: seen stays", x.about(8), 1);
        check.due("5: what was seen stays", x.meant(1), 2);
        check.due("5: the seed stays", x.seed(0), 77);
        Check.write(x, "M");
        check.due("5: nothing told", x.open(), 0);
        check.due("5: what was seen waits", x.about(8), 1);
    }
}
