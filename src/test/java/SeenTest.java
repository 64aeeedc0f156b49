/** Promises 16 to 20: what was seen and meant, who is of age, which tides agree. */
public final class SeenTest {
    private static final Check check = new Check();

    public static void main(String[] args) {
        see();
        unsee();
        meant();
        meantByLateDays();
        meantOnTheSkippedDay();
        ofAge();
        agree();
        check.end("SeenTest");
    }

    private static void see() {
        SkippedDay x = Check.opened("MCb14l0Cb14l0");
        check.due("16: first", x.see(0, 0), 1);
        check.due("16: like it", x.see(0, 0), 2);
        check.due("16: of another", x.see(1, 11), 3);
        x.see(0, 1);
        x.see(0, 2);
        check.due("16: sixth", x.see(0, 3), 6);
        check.due("16: seventh", x.see(0, 4), Check.FULL);
        check.due("16: bad ahead of full", x.see(0, 12), Check.BAD);
        check.due("16: unknown ahead of full", x.see(2, 0), Check.UNKNOWN);
        check.due("16: six", x.about(8), 6);
        check.due("16: no act", x.about(7), 0);
    }

    private static void unsee() {
        SkippedDay x = Check.opened("MCb14l0");
        check.due("17: nothing", x.unsee(), 0);
        x.see(0, 0);
        x.see(0, 4);
        check.due("18: neither", x.meant(0), 0);
        check.due("17: two", x.unsee(), 2);
        check.due("17: nothing then", x.about(8), 0);
        check.due("18: both, as nothing is seen", x.meant(0), 3);
        check.due("16: first again", x.see(0, 4), 1);
        check.due("18: only what is seen since", x.meant(0), 1);
    }

    private static void meant() {
        // from DAY 1: by name it ends on DAY 4, by count 4 days on
        SkippedDay x = Check.opened("MCb14a9Cb0el0Cb0el0");
        x.see(0, 4);
        check.due("18: by name", x.meant(0), 1);
        check.due("18: of another nothing is seen", x.meant(1), 3);
        x.see(1, 5);
        check.due("18: by count", x.meant(1), 2);
        x.put(3);
        check.due("18: both on DAY 4", x.meant(0), 3);
        check.due("18: neither on DAY 5", x.meant(1), 0);
        x.put(0);
        check.due("18: by name with the day ahead of both", x.meant(0), 1);
        check.due("18: by count with the day ahead of both", x.meant(1), 2);
        x.readOtherwise(0);
        x.turnVoid(1);
        check.due("18: however it is read", x.meant(0), 1);
        check.due("18: void as well", x.meant(1), 2);
        x.see(1, 4);
        check.due("18: not on both days", x.meant(1), 0);
        x.see(2, 0);
        check.due("18: on neither", x.meant(2), 0);
    }

    private static void meantByLateDays() {
        // by name of DAY 11, by count 11 days
        SkippedDay x = Check.opened("MCa0ll0Cb0kl0");
        x.see(0, 11);
        check.due("18: 11 days", x.meant(0), 3);
        x.see(1, 11);
        check.due("18: 10 days", x.meant(1), 2);
        x.put(6);
        check.due("18: 11 days are DAY 10 now", x.meant(0), 1);
        check.due("18: 10 days are DAY 10 now", x.meant(1), 0);
        x.put(0);
        check.due("18: 11 days from the second day", x.meant(0), 3);
    }

    private static void meantOnTheSkippedDay() {
        SkippedDay x = Check.opened("MCb14l0");
        x.put(5);
        for (int day = 0; day < 12; day++) {
            x.unsee();
            x.see(0, day);
            check.due("18: the count ends on no DAY, not on " + day, x.meant(0), day == 4 ? 1 : 0);
        }
    }

    private static void age(SkippedDay x, int birth, int gap, int want) {
        check.due("19: ofAge(" + birth + ", " + gap + ")", x.ofAge(birth, gap), want);
    }

    private static void ofAge() {
        SkippedDay x = Check.opened("MBa9Bl0Bl1");
        int[][] wants = {
            {9, 11, 13}, {8, 11, 13}, {8, 11, 13}, {12, 11, 13}, {9, 11, 13}, {9, 11, 13}, {9, 11, 12}, {9, 11, 13}};
        int[] gaps = {0, 1, 8, 9, 10, 11, 12, 13};
        for (int i = 0; i < gaps.length; i++) {
            for (int birth = 0; birth < 3; birth++) {
                age(x, birth, gaps[i], wants[i][birth]);
            }
        }
        x = Check.opened("MBk2Bl9Ba0");
        age(x, 0, 13, 13);
        age(x, 0, 12, 12);
        age(x, 0, 11, 11);
        age(x, 0, 10, 13);
        age(x, 1, 12, 13);
        age(x, 1, 13, 13);
        age(x, 2, 0, 0);
        age(x, 2, 13, 0);
        x.put(12);
        age(x, 0, 13, 13);
    }

    private static void agreeing(SkippedDay x, int d, int gap, int want) {
        check.due("20: agree(" + d + ", " + gap + ")", x.agree(d, gap), want);
    }

    private static void agree() {
        SkippedDay x = Check.opened("MT20T31T97");
        agreeing(x, 0, 13, 1);
        agreeing(x, 0, 0, 1);
        agreeing(x, 1, 13, 1);
        agreeing(x, 4, 13, 2);
        agreeing(x, 4, 4, 0);
        agreeing(x, 7, 13, 2);
        agreeing(x, 7, 7, 1);
        agreeing(x, 7, 8, 2);
        agreeing(x, 6, 6, 2);
        agreeing(x, 11, 0, 1);
        agreeing(x, 11, 12, 0);
        x.put(0);
        agreeing(x, 7, 13, 2);
        agreeing(Check.opened("MT29"), 7, 13, 0);
        agreeing(Check.opened("MT29"), 9, 13, 1);
        agreeing(Check.opened("MT20T20T20"), 2, 13, 3);
        agreeing(new SkippedDay(), 0, 0, 0);
    }
}
