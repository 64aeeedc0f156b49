/** The edges of promises 16 to 20. Each test is headed by the words of the document that it holds. */
public final class SeenEdgesTest {
    private static final Check check = new Check();

    private static final String DAYS = "abcdefghijkl";
    private static final int SKIPPED = 12, BEHIND_ALL = 13;

    public static void main(String[] args) {
        seeDay();
        seeWhom();
        sixAtMost();
        seeOrder();
        unsee();
        meantUnseen();
        meantEach();
        meantBehindNine();
        meantNoDay();
        meantWhom();
        seenStays();
        ofAgeEverywhere();
        ofAgeBehindAll();
        ofAgeBeyond();
        agreeEverywhere();
        agreeFirst();
        agreeBeyond();
        check.end("SeenEdgesTest");
    }

    /** "BAD: d (0 .. 11)" */
    private static void seeDay() {
        SkippedDay x = Check.opened("MCa0aa0");
        check.due("16: below the first day", x.see(0, -1), Check.BAD);
        check.due("16: behind the last day", x.see(0, 12), Check.BAD);
        check.due("16: nothing is seen", x.about(8), 0);
        check.due("16: the first day", x.see(0, 0), 1);
        check.due("16: the last day", x.see(0, 11), 2);
    }

    /** "UNKNOWN" */
    private static void seeWhom() {
        SkippedDay x = Check.opened("MCa0aa0Ca0aa0Ca0aa0Ca0aa0Ca0aa0");
        check.due("16: below the first", x.see(-1, 0), Check.UNKNOWN);
        check.due("16: behind the last", x.see(5, 0), Check.UNKNOWN);
        check.due("16: the first", x.see(0, 0), 1);
        check.due("16: the last", x.see(4, 0), 2);
        check.due("16: there is none", new SkippedDay().see(0, 0), Check.UNKNOWN);
    }

    /** "6 such at most", "FULL: 6" */
    private static void sixAtMost() {
        SkippedDay x = Check.opened("MCa0aa0Ca0ba0");
        for (int seen = 1; seen <= 6; seen++) {
            check.due("16: number " + seen, x.see(seen % 2, seen % 2), seen);
        }
        for (int more = 0; more < 3; more++) {
            check.due("16: the seventh", x.see(0, 5), Check.FULL);
            check.due("16: six are left", x.about(8), 6);
        }
        check.due("18: the seventh is not seen", x.meant(0), 3);
        check.due("18: nor is one forgotten", x.meant(1), 3);
    }

    /** "UNKNOWN; BAD: d (0 .. 11); FULL: 6", and "Of several what is told first" */
    private static void seeOrder() {
        SkippedDay x = Check.opened("MCa0aa0");
        check.due("16: unknown, and bad", x.see(1, 12), Check.UNKNOWN);
        check.due("16: unknown, and bad below", x.see(-1, -1), Check.UNKNOWN);
        for (int seen = 0; seen < 6; seen++) {
            x.see(0, 0);
        }
        check.due("16: unknown, bad and full", x.see(1, 12), Check.UNKNOWN);
        check.due("16: unknown and full", x.see(1, 11), Check.UNKNOWN);
        check.due("16: bad above and full", x.see(0, 12), Check.BAD);
        check.due("16: bad below and full", x.see(0, -1), Check.BAD);
        check.due("16: full", x.see(0, 11), Check.FULL);
    }

    /** "Nothing is SEEN: how much there was", "none at first" */
    private static void unsee() {
        SkippedDay fresh = new SkippedDay();
        check.due("16: none at first", fresh.about(8), 0);
        check.due("17: none at first", fresh.unsee(), 0);
        for (int seen = 0; seen <= 6; seen++) {
            SkippedDay x = Check.opened("MCa0aa0");
            for (int i = 0; i < seen; i++) {
                x.see(0, 4);
            }
            check.due("17: there were " + seen, x.unsee(), seen);
            check.due("17: none is left", x.about(8), 0);
            check.due("17: none was there", x.unsee(), 0);
            check.due("18: none counts", x.meant(0), 3);
            for (int i = 1; i <= 6; i++) {
                check.due("16: there is room again", x.see(0, 0), i);
            }
            check.due("16: and it is full again", x.see(0, 0), Check.FULL);
        }
    }

    /** "on each DAY that was SEEN of it": as none was, both readings are meant. */
    private static void meantUnseen() {
        SkippedDay x = Check.opened("MCa0aa0Cl19a9Ca0la0");
        for (int contract = 0; contract < 3; contract++) {
            check.due("18: none was seen of " + contract, x.meant(contract), 3);
        }
        x.see(1, 0);
        check.due("18: one was seen of another", x.meant(0), 3);
    }

    /** "readings (1 by NAME, 2 by COUNT, 3 both, 0 neither ...) by which it ends on each DAY" */
    private static void meantEach() {
        SkippedDay x = Check.opened("MCb14l0Cb14l0Ca14l0Cb14l0");
        x.see(0, 4);
        x.see(1, 5);
        x.see(2, 4);
        x.see(3, 6);
        check.due("18: by name", x.meant(0), 1);
        check.due("18: by count", x.meant(1), 2);
        check.due("18: both", x.meant(2), 3);
        check.due("18: neither", x.meant(3), 0);
        x.see(0, 5);
        check.due("18: by name the one, by count the other", x.meant(0), 0);
        x.see(2, 4);
        check.due("18: both twice", x.meant(2), 3);
    }

    /** "v as above, by NAME of a DAY behind 9 by COUNT: that many days" */
    private static void meantBehindNine() {
        for (int v = 0; v < 12; v++) {
            String named = "Ca0" + DAYS.charAt(v) + "a0";
            SkippedDay x = Check.opened("M" + named);
            x.see(0, v);
            check.due("18: " + named + " from DAY 0", x.meant(0), 3);
            x.put(0);
            check.due("18: from DAY 0, all a day later", x.meant(0), 3);
            if (v > 0) {
                x.put(v);
                check.due("18: the count ends on the skipped day", x.meant(0), 1);
                x.put(1);
                check.due("18: the count ends on the day ahead", x.meant(0), 1);
                x.unsee();
                x.see(0, v - 1);
                check.due("18: that is the DAY that was seen", x.meant(0), v == 1 ? 0 : 2);
            }
        }
        SkippedDay x = Check.opened("MCb0ka0Cb0la0");
        x.see(0, 11);
        x.see(1, 11);
        check.due("18: ten days from DAY 1", x.meant(0), 2);
        check.due("18: eleven days from DAY 1 end behind all", x.meant(1), 1);
    }

    /** What ends on the skipped day, or behind all, ends on no DAY. */
    private static void meantNoDay() {
        for (int day = 0; day < 12; day++) {
            SkippedDay x = Check.opened("MCd15a0Cl11a0");
            x.put(8);
            x.see(0, day);
            x.see(1, day);
            check.due("18: the count ends in gap 8, not on " + day, x.meant(0), day == 5 ? 1 : 0);
            check.due("18: the count ends behind all, not on " + day, x.meant(1), day == 1 ? 1 : 0);
            x.put(12);
            check.due("18: on DAY 8", x.meant(0), day == 5 ? 1 : day == 8 ? 2 : 0);
            check.due("18: on the day behind all", x.meant(1), day == 1 ? 1 : 0);
        }
    }

    /** "UNKNOWN" */
    private static void meantWhom() {
        SkippedDay x = Check.opened("MCa0aa0Ca0aa0");
        check.due("18: below the first", x.meant(-1), Check.UNKNOWN);
        check.due("18: the first", x.meant(0), 3);
        check.due("18: the last", x.meant(1), 3);
        check.due("18: behind the last", x.meant(2), Check.UNKNOWN);
        check.due("18: there is none", new SkippedDay().meant(0), Check.UNKNOWN);
    }

    /** "SEEN ... stay" when another case is opened: six still, though the contracts are others, or none. */
    private static void seenStays() {
        SkippedDay x = Check.opened("MCa0aa0Cb14l0");
        for (int seen = 0; seen < 6; seen++) {
            x.see(1, 5);
        }
        Check.write(x, "M");
        x.open();
        check.due("16: six still", x.about(8), 6);
        check.due("18: but of none that there is", x.meant(1), Check.UNKNOWN);
        Check.write(x, "MCa0aa0Ca0fl0");
        x.open();
        check.due("16: full still", x.see(0, 0), Check.FULL);
        check.due("18: of the new one", x.meant(1), 3);
        check.due("17: six until now", x.unsee(), 6);
    }

    private static int[] namesWith(int gap) {
        int[] names = new int[gap == Check.NOWHERE ? 12 : 13];
        int at = 0;
        for (int day = 0; day <= 12; day++) {
            if (day == gap) {
                names[at] = SKIPPED;
                at++;
            }
            if (day < 12) {
                names[at] = day;
                at++;
            }
        }
        return names;
    }

    private static int comingOf(int day, int[] names) {
        int coming = 0;
        while (names[coming] != day) {
            coming++;
        }
        return coming;
    }

    /** "which DAY that is by name; 12: it is the skipped day; 13: behind all", of each birth, in each GAP and nowhere */
    private static void ofAgeEverywhere() {
        for (int day = 0; day < 12; day++) {
            for (int age = 0; age <= 9; age++) {
                SkippedDay x = Check.opened("MB" + DAYS.charAt(day) + age);
                for (int gap = 0; gap <= 13; gap++) {
                    int[] names = namesWith(gap);
                    int coming = comingOf(day, names) + age;
                    int want = coming < names.length ? names[coming] : BEHIND_ALL;
                    check.due("19: " + age + " on DAY " + day + " in " + gap, x.ofAge(0, gap), want);
                }
            }
        }
    }

    /** "12: it is the skipped day; 13: behind all", at the end of the days */
    private static void ofAgeBehindAll() {
        SkippedDay x = Check.opened("MBl0Bl1Bl2");
        int[][] wants = {{11, SKIPPED, BEHIND_ALL}, {11, BEHIND_ALL, BEHIND_ALL}, {11, BEHIND_ALL, BEHIND_ALL}};
        int[] gaps = {12, 11, 13};
        for (int i = 0; i < gaps.length; i++) {
            for (int birth = 0; birth < 3; birth++) {
                check.due("19: birth " + birth + " in " + gaps[i], x.ofAge(birth, gaps[i]), wants[i][birth]);
            }
        }
    }

    /** "UNKNOWN; BAD: gap (0 .. 13)", and "Of several what is told first" */
    private static void ofAgeBeyond() {
        SkippedDay x = Check.opened("MBa0Ba0Ba0");
        check.due("19: below the first gap", x.ofAge(0, -1), Check.BAD);
        check.due("19: the first gap", x.ofAge(0, 0), 0);
        check.due("19: nowhere", x.ofAge(0, 13), 0);
        check.due("19: behind nowhere", x.ofAge(0, 14), Check.BAD);
        check.due("19: below the first birth", x.ofAge(-1, 0), Check.UNKNOWN);
        check.due("19: the last birth", x.ofAge(2, 0), 0);
        check.due("19: behind the last birth", x.ofAge(3, 0), Check.UNKNOWN);
        check.due("19: neither birth nor gap", x.ofAge(3, 14), Check.UNKNOWN);
        check.due("19: neither birth nor gap, below", x.ofAge(-1, -1), Check.UNKNOWN);
        check.due("19: there is no birth", new SkippedDay().ofAge(0, 0), Check.UNKNOWN);
        check.due("19: no birth, and no gap", new SkippedDay().ofAge(0, 14), Check.UNKNOWN);
    }

    /** "comes each p (2 .. 9) days, first o (0 .. 9) days from the beginning on", each tide on each DAY, wherever the day is */
    private static void agreeEverywhere() {
        for (int each = 2; each <= 9; each++) {
            for (int first = 0; first <= 9; first++) {
                SkippedDay x = Check.opened("MT" + each + first);
                for (int gap = 0; gap <= 13; gap++) {
                    int[] names = namesWith(gap);
                    for (int day = 0; day < 12; day++) {
                        check.due("20: T" + each + first + " on DAY " + day + " in " + gap, x.agree(day, gap),
                            comes(each, first, comingOf(day, names)));
                    }
                }
            }
        }
    }

    private static int comes(int each, int first, int coming) {
        int day = first;
        while (day < coming) {
            day += each;
        }
        return day == coming ? 1 : 0;
    }

    /** "first o (0 .. 9) days from the beginning on": not ahead of that, though it were a multiple of p */
    private static void agreeFirst() {
        SkippedDay x = Check.opened("MT29T39T99");
        check.due("20: two days ahead of the first", x.agree(7, 13), 0);
        check.due("20: nine days ahead of the first", x.agree(0, 13), 0);
        check.due("20: the first", x.agree(9, 13), 3);
        check.due("20: the first, by the day put in", x.agree(8, 0), 3);
        check.due("20: the second one of the first", x.agree(11, 13), 1);
        SkippedDay all = Check.opened("MT20T30T90");
        check.due("20: all on the first day", all.agree(0, 13), 3);
        check.due("20: none, as the first day is the skipped one", all.agree(0, 0), 0);
        check.due("20: there is no tide", new SkippedDay().agree(0, 13), 0);
    }

    /** "BAD: d, gap" */
    private static void agreeBeyond() {
        SkippedDay x = Check.opened("MT20");
        check.due("20: below the first day", x.agree(-1, 13), Check.BAD);
        check.due("20: the first day", x.agree(0, 13), 1);
        check.due("20: the last day", x.agree(11, 0), 1);
        check.due("20: behind the last day", x.agree(12, 0), Check.BAD);
        check.due("20: below the first gap", x.agree(0, -1), Check.BAD);
        check.due("20: the first gap", x.agree(1, 0), 1);
        check.due("20: the last gap", x.agree(0, 12), 1);
        check.due("20: behind nowhere", x.agree(0, 14), Check.BAD);
        check.due("20: neither day nor gap", x.agree(12, 14), Check.BAD);
    }
}
