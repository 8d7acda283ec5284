/** The boundaries that the document names of days: promises 7 to 16, a test for each sentence. */
public final class DaysBoundariesTest {
    private static final int BAD = Due.BAD, NONE = Due.NONE;
    private static final long LAST = Due.LAST_DAY, TRILLION = Due.TRILLION;
    private static final long[] NO_DAYS = {-1, LAST + 1, Long.MIN_VALUE, Long.MAX_VALUE};
    private static final int[] FAR = {Integer.MIN_VALUE, Integer.MAX_VALUE};
    /** Ten houses, all of week 0, by which all may be asked for. */
    private static final String TEN = "h0,0,1,0;".repeat(10);

    private static void due(String what, long got, long want) {
        Due.due(what, got, want);
    }

    // ---- days

    /** "DAYS that are asked for are numbers from 0 to 1000000000000000": the first and the last are taken. */
    static void theFirstAndTheLastDayAreTaken() {
        // Day 10 to the 15th is the first of a week of 2, 4, 5, 8, 10, and of 3 and 9 the second.
        OwnSunday x = Due.laid("w5,3;h0,0,1,0;h1,1,1,1;h1,0,2,2;m0,2,1;n2;");
        due("up(0)", x.up(0), 2);
        due("up(10^15)", x.up(LAST), 4);
        due("hands(0, 0)", x.hands(0, 0), 1);
        due("hands(0, 10^15)", x.hands(0, LAST), 0);
        due("judge(0, 0)", x.judge(0, 0), 0);
        due("judge(10^15, 0)", x.judge(LAST, 0), LAST);
        due("together(2, 0)", x.together(2, 0), 0);
        due("together(4, 10^15)", x.together(4, LAST), LAST);
        due("often(2, 0, 1)", x.often(2, 0, 1), 1);
        due("often(2, 10^15, 1)", x.often(2, LAST, 1), 0);
        due("often(4, 10^15, 1)", x.often(4, LAST, 1), 1);
        due("street(0, 0)", x.street(0, 0), 0);
        due("street(1, 10^15)", x.street(1, LAST), LAST);
        due("harvest(0, 0, 1)", x.harvest(0, 0, 1), 1);
        due("harvest(1, 10^15, 1)", x.harvest(1, LAST, 1), 1);
        due("seen(0, 0)", x.seen(0, 0, false), 1);
        due("seen(10^15, 0)", x.seen(LAST, 0, false), 2);
        due("fits(-1)", x.fits(-1, false), 3);
        due("fire(0, 1, 0, 1)", x.fire(0, 1, 0, 1), 1);
        due("fire(0, 1, 10^15, 1)", x.fire(0, 1, LAST, 1), 1);
        due("fire(0, 1, 10^15, 0)", x.fire(0, 1, LAST, 0), 1);
    }

    /** And those just outside, and far outside, are BAD. */
    static void otherDaysAreRefused() {
        for (long d : NO_DAYS) {
            Due.refused("up(" + d + ")", x -> x.up(d), BAD);
            Due.refused("hands(0, " + d + ")", x -> x.hands(0, d), BAD);
            Due.refused("judge(" + d + ", 0)", x -> x.judge(d, 0), BAD);
            Due.refused("judge(" + d + ", 1)", x -> x.judge(d, 1), BAD);
            Due.refused("together(1, " + d + ")", x -> x.together(1, d), BAD);
            Due.refused("often(1, " + d + ", 1)", x -> x.often(1, d, 1), BAD);
            Due.refused("often(1, " + d + ", 0)", x -> x.often(1, d, 0), BAD);
            Due.refused("street(0, " + d + ")", x -> x.street(0, d), BAD);
            Due.refused("harvest(0, " + d + ", 1)", x -> x.harvest(0, d, 1), BAD);
            Due.refused("seen(" + d + ", 0, true)", x -> x.seen(d, 0, true), BAD);
            for (int what = 0; what < 3; what++) {
                int asked = what;
                Due.refused("fire(0, 1, " + d + ", " + what + ")", x -> x.fire(0, 1, d, asked), BAD);
            }
        }
    }

    /** "those that are told may be beyond". */
    static void daysThatAreToldMayBeBeyondTheLast() {
        OwnSunday x = Due.laid("w11,12;h0,10,1,0;h1,11,1,0;m0,1,1;");
        // 10 to the 15th is 10 modulo 11 and 4 modulo 12: 76 modulo 132; both rest on 131.
        due("judge(10^15, 0)", x.judge(LAST, 0), LAST + 55);
        due("judge(10^15, 1)", x.judge(LAST, 1), 0);
        due("street(0, 10^15)", x.street(0, LAST), LAST + 55);
        due("together(3, 10^15): house 0 rests on it", x.together(3, LAST), LAST + 1);
        due("often(1, 10^15, 1)", x.often(1, LAST, 1), 0);
        due("often(1, 10^15, 10^12)", x.often(1, LAST, TRILLION), 909090909090L);
        due("harvest(0, 10^15, 1)", x.harvest(0, LAST, 1), 1);
        due("fire(1, 999, 10^15, 1): 825 days beyond, 109 modulo 132", x.fire(1, 999, LAST, 1), 1);
    }

    /** "HOUSE I rests on DAY d, if d modulo the length of its WEEK is R; else it is up". */
    static void aHouseRestsOnceAWeek() {
        for (int length = 2; length <= 12; length++) {
            for (int r = 0; r < length; r++) {
                OwnSunday x = Due.laid("w" + length + ",12;h0," + r + ",1,0;");
                for (long d = 0; d <= 3 * length; d++) {
                    due("up(" + d + ") of " + r + " of " + length, x.up(d), d % length == r ? 0 : 1);
                }
                for (long d = LAST - length; d <= LAST; d++) {
                    due("up(" + d + ") of " + r + " of " + length, x.up(d), d % length == r ? 0 : 1);
                }
            }
        }
    }

    /** A day that fits into no int. */
    static void daysAreLongs() {
        OwnSunday x = Due.laid("w7,9;h0,2,1,0;h1,4,1,0;");
        for (long d : new long[] {2147483647L, 2147483648L, 2147483649L, 4294967295L, 4294967296L, 4294967300L}) {
            int want = (d % 7 == 2 ? 0 : 1) | (d % 9 == 4 ? 0 : 2);
            due("up(" + d + ")", x.up(d), want);
            due("hands(0, " + d + ")", x.hands(0, d), Integer.bitCount(want));
        }
    }

    /** "A PERIOD is the least number of days that both WEEKS divide (A, if they are alike)". */
    static void aPeriodIsTheLeastThatBothWeeksDivide() {
        for (int a = 2; a <= 12; a++) {
            for (int b = 2; b <= 12; b++) {
                int period = Math.max(a, b);
                while (period % a != 0 || period % b != 0) {
                    period++;
                }
                due("count(6) of " + a + ", " + b, Due.laid("w" + a + "," + b + ";h0,0,0,0;").count(6), period);
            }
        }
        due("count(6) of 12, 12", Due.laid("w12,12;h0,0,0,0;").count(6), 12);
        due("count(6) of 2, 2", Due.laid("w2,2;h0,0,0,0;").count(6), 2);
        due("count(6) of 11, 12", Due.laid("w11,12;h0,0,0,0;").count(6), 132);
        due("count(6) of 6, 12", Due.laid("w6,12;h0,0,0,0;").count(6), 12);
        due("count(6) of 8, 12", Due.laid("w8,12;h0,0,0,0;").count(6), 24);
    }

    // ---- up

    /** "as bits": none up, all ten up. */
    static void noneOrAllMayBeUp() {
        OwnSunday x = Due.laid(TEN);
        due("up(0)", x.up(0), 0);
        due("up(1)", x.up(1), 1023);
        due("up(6)", x.up(6), 1023);
        due("up(7)", x.up(7), 0);
        due("up(0) of one", Due.laid("h0,0,1,0;").up(0), 0);
        due("up(1) of one", Due.laid("h0,0,1,0;").up(1), 1);
    }

    // ---- hands

    /** "SKILL S (0 to 4)", "BAD". */
    static void handsAreOfASkillFrom0To4() {
        OwnSunday x = Due.laid("h0,0,1,0;h0,1,17,0;h0,2,30,0;");
        int[] want = {2, 1, 1, 1, 2};
        for (int s = 0; s < 5; s++) {
            due("hands(" + s + ", 6)", x.hands(s, 6), want[s]);
        }
        for (int s : new int[] {-1, 5, 31, 32, FAR[0], FAR[1]}) {
            Due.refused("hands(" + s + ", 0)", y -> y.hands(s, 0), BAD);
            Due.refused("hands(" + s + ", -1)", y -> y.hands(s, -1), BAD);
        }
    }

    /** None of the skill, none up, all ten. */
    static void handsAreFrom0To10() {
        OwnSunday x = Due.laid(TEN);
        due("hands(0, 0)", x.hands(0, 0), 0);
        due("hands(0, 1)", x.hands(0, 1), 10);
        due("hands(1, 1)", x.hands(1, 1), 0);
    }

    // ---- judge

    /** "SHORT on a day, if fewer than N HOUSES that have its SKILL are up": N of them are enough. */
    static void aWorkIsShortOfFewerThanItNeeds() {
        for (int houses = 1; houses <= 10; houses++) {
            // One rests on day 0, the others on day 1.
            String text = "h0,0,1,0;" + "h0,1,1,0;".repeat(houses - 1);
            for (int need = 1; need <= 9; need++) {
                OwnSunday x = Due.laid(text + "m0," + need + ",1;");
                due("judge(0, 0)", x.judge(0, 0), houses - 1 < need ? 0 : 1 < need ? 1 : NONE);
                due("judge(2, 0)", x.judge(2, 0), houses < need ? 2 : houses - 1 < need ? 7 : 1 < need ? 8 : NONE);
            }
        }
    }

    /** "the first DAY (d to d and 999)": d itself, and the farthest at which one may be, a PERIOD less 1. */
    static void judgeBeginsWithTheDayItself() {
        OwnSunday x = Due.laid("w11,12;h0,10,1,0;h1,11,1,0;m0,1,1;");
        due("judge(131, 0)", x.judge(131, 0), 131);
        due("judge(132, 0)", x.judge(132, 0), 263);
        due("judge(0, 0)", x.judge(0, 0), 131);
        due("judge(130, 0)", x.judge(130, 0), 131);
        due("judge(263, 1)", x.judge(263, 1), 0);
        due("judge(264, 1)", x.judge(264, 1), 0);
    }

    /** "the lowest such WORK": of six all, the last alone, two. */
    static void judgeTellsTheLowestWork() {
        String house = "h0,3,1,0;";
        due("judge(0, 1) of six", Due.laid(house + "m0,1,1;".repeat(6)).judge(0, 1), 0);
        OwnSunday x = Due.laid("h0,3,1,0;h0,4,2,0;h0,5,28,0;m1,1,9;m0,1,9;m2,1,1;m2,1,1;m0,1,1;m3,2,1;");
        due("judge(0, 0): always short is the last", x.judge(0, 0), 0);
        due("judge(0, 1)", x.judge(0, 1), 5);
        due("judge(3, 1)", x.judge(3, 1), 1);
        due("judge(4, 1)", x.judge(4, 1), 0);
        due("judge(5, 1)", x.judge(5, 1), 2);
        due("judge(6, 1)", x.judge(6, 1), 5);
    }

    /** "none": no works, or none that is ever short; BAD is ahead of it. */
    static void judgeMayFindNone() {
        for (String text : new String[] {"h0,0,1,0;", "w2,2;h0,0,1,0;h1,1,1,0;m0,1,1;",
            "w12,11;h0,0,1,0;h0,1,1,0;h1,2,1,0;m0,1,1;"}) {
            OwnSunday x = Due.laid(text);
            for (int what = 0; what < 2; what++) {
                due("judge(0, " + what + ") of " + text, x.judge(0, what), NONE);
                due("judge(10^15, " + what + ") of " + text, x.judge(LAST, what), NONE);
            }
            due("judge(0, 2)", x.judge(0, 2), BAD);
            due("judge(-1, 0)", x.judge(-1, 0), BAD);
            due("judge(10^15 and 1, 1)", x.judge(LAST + 1, 1), BAD);
        }
    }

    /** "the DAY (what = 0), the WORK (1)", "BAD". */
    static void judgeIsAskedFor0And1() {
        for (int what : new int[] {-1, 2, FAR[0], FAR[1]}) {
            Due.refused("judge(0, " + what + ")", x -> x.judge(0, what), BAD);
            Due.refused("judge(-1, " + what + ")", x -> x.judge(-1, what), BAD);
        }
    }

    // ---- still

    /** A run of short days from r on, of so many days, in a week of 12. */
    private static String shortDays(int first, int days) {
        StringBuilder text = new StringBuilder("w12,12;");
        for (int k = 0; k < days; k++) {
            text.append("h0,").append((first + k) % 12).append(",1,0;");
        }
        return text + "m0," + days + ",";
    }

    /** "if it is SHORT on it and on the D less 1 days ahead of it": runs of 1 to 9 days for D of 1 to 9. */
    static void aWorkStandsStillWhenShortForDDaysOnEnd() {
        for (int days = 1; days <= 9; days++) {
            for (int d = 1; d <= 9; d++) {
                due("still(0), run of " + days + ", D " + d, Due.laid(shortDays(1, days) + d + ";").still(0),
                    Math.max(0, days - d + 1));
            }
        }
    }

    /** The same over the border of a PERIOD, wherever the run begins: days ahead of PERIOD count as short ones. */
    static void shortDaysGoOnOverAPeriodsBorder() {
        for (int first = 0; first < 12; first++) {
            for (int d = 1; d <= 9; d++) {
                due("still(0), run from " + first + ", D " + d, Due.laid(shortDays(first, 5) + d + ";").still(0),
                    Math.max(0, 5 - d + 1));
            }
        }
    }

    /** "the DAYS from PERIOD to twice that less 1": the first and the last of these, and none else. */
    static void stillIsOfThePeriodsDays() {
        for (int length = 2; length <= 12; length++) {
            for (int r = 0; r < length; r++) {
                String text = "w" + length + "," + length + ";h0," + r + ",1,0;m0,1,1;";
                due("still(0) of " + text, Due.laid(text).still(0), 1);
            }
        }
        due("still(0) of 11, 12", Due.laid("w11,12;h0,0,1,0;m0,1,1;").still(0), 12);
        due("still(0) of 12, 11", Due.laid("w12,11;h0,11,1,0;m0,1,1;").still(0), 11);
        due("still(0), always short", Due.laid("w11,12;h0,0,0,0;m0,1,9;").still(0), 132);
    }

    /** "(days ahead of 0 are not SHORT)": of works that are always short, in short PERIODS. */
    static void daysAheadOf0AreNotShort() {
        for (int period = 2; period <= 12; period++) {
            for (int d = 1; d <= 9; d++) {
                int want = 0;
                for (int day = period; day < 2 * period; day++) {
                    want += day - (d - 1) >= 0 ? 1 : 0;
                }
                String text = "w" + period + "," + period + ";h0,0,0,0;m0,1," + d + ";";
                due("still(0) of " + text, Due.laid(text).still(0), want);
            }
        }
        due("still(0): of the days 2, 3 none has eight ahead", Due.laid("w2,2;h0,0,0,0;m0,1,9;").still(0), 0);
        due("still(0): day 3 has three ahead", Due.laid("w2,2;h0,0,0,0;m0,1,4;").still(0), 1);
        due("still(0): the days 8 and 9", Due.laid("w5,5;h0,0,0,0;m0,1,9;").still(0), 2);
    }

    /** "STILL of a WORK. BAD": such as there are. */
    static void stillIsOfAWorkThatThereIs() {
        due("still(0) of none", new OwnSunday().still(0), BAD);
        for (int n = 0; n <= 6; n++) {
            OwnSunday x = Due.laid("h0,0,1,0;" + "m0,1,1;".repeat(n));
            for (int w = 0; w <= 7; w++) {
                due("still(" + w + ") of " + n, x.still(w), w < n ? 9 : BAD);
            }
        }
        for (int w : new int[] {-1, 2, 6, FAR[0], FAR[1]}) {
            Due.refused("still(" + w + ")", x -> x.still(w), BAD);
        }
    }

    // ---- sets of houses

    /** "BAD (no HOUSE, too)", "HOUSES .. such as there are": as bits, in together, often, longest. */
    static void setsAreOfHousesThatThereAre() {
        for (int n = 1; n <= 10; n++) {
            OwnSunday x = Due.laid("h0,0,1,0;".repeat(n));
            int all = (1 << n) - 1;
            int[] taken = {1, all, 1 << (n - 1)};
            for (int set : taken) {
                due("together(" + set + ", 0) of " + n, x.together(set, 0), 1);
                due("often(" + set + ", 0, 2) of " + n, x.often(set, 0, 2), 1);
                due("longest(" + set + ") of " + n, x.longest(set), 1);
            }
            int[] refused = {0, all + 1, all + 2, 2 * all + 1, -1, -all, 1 << 30, FAR[0], FAR[0] + 1, FAR[1]};
            for (int set : refused) {
                due("together(" + set + ", 0) of " + n, x.together(set, 0), BAD);
                due("often(" + set + ", 0, 2) of " + n, x.often(set, 0, 2), BAD);
                due("longest(" + set + ") of " + n, x.longest(set), BAD);
            }
        }
        for (int set : new int[] {0, 8, 9, -1, FAR[0], FAR[1]}) {
            Due.refused("together(" + set + ", 0)", x -> x.together(set, 0), BAD);
            Due.refused("often(" + set + ", 0, 0)", x -> x.often(set, 0, 0), BAD);
            Due.refused("longest(" + set + ")", x -> x.longest(set), BAD);
        }
    }

    // ---- together

    /** "the first DAY from d on on which all are up": d itself, the next, the one behind a long wait. */
    static void togetherBeginsWithTheDayItself() {
        StringBuilder text = new StringBuilder("w11,11;");
        for (int r = 0; r < 10; r++) {
            text.append("h0,").append(r).append(",1,0;");
        }
        OwnSunday x = Due.laid(text.toString());
        for (long d = 0; d < 23; d++) {
            due("together(1023, " + d + ")", x.together(1023, d), d <= 10 ? 10 : d <= 21 ? 21 : 32);
            due("together(1, " + d + ")", x.together(1, d), d % 11 == 0 ? d + 1 : d);
        }
    }

    /** The one day of a PERIOD on which all are up may be its last, and its first. */
    static void togetherFindsTheOneDayOfAPeriod() {
        // Up together on day 2 of 3 and day 3 of 4 alone: day 11 of 12.
        OwnSunday x = Due.laid("w3,4;h0,0,1,0;h0,1,1,0;h1,0,1,0;h1,1,1,0;h1,2,1,0;");
        due("together(31, 0)", x.together(31, 0), 11);
        due("together(31, 11)", x.together(31, 11), 11);
        due("together(31, 12)", x.together(31, 12), 23);
        x = Due.laid("w3,4;h0,1,1,0;h0,2,1,0;h1,1,1,0;h1,2,1,0;h1,3,1,0;");
        due("together(31, 0)", x.together(31, 0), 0);
        due("together(31, 1)", x.together(31, 1), 12);
    }

    /** "none": BAD is ahead of it. */
    static void togetherMayFindNone() {
        OwnSunday x = Due.laid("w2,2;h0,0,1,0;h1,1,1,0;");
        due("together(3, 0)", x.together(3, 0), NONE);
        due("together(3, 10^15)", x.together(3, LAST), NONE);
        due("together(3, -1)", x.together(3, -1), BAD);
        due("together(3, 10^15 and 1)", x.together(3, LAST + 1), BAD);
        due("together(7, 0)", x.together(7, 0), BAD);
        due("together(1, 0)", x.together(1, 0), 1);
    }

    // ---- often

    /** "on how many of the n days (0 to 1000000000000)". */
    static void oftenIsOf0ToATrillionDays() {
        OwnSunday x = Due.laid("w2,3;h0,0,1,0;h1,1,1,0;");
        // Both up on 3 and 5 of 6.
        long[][] rows = {{0, 0}, {1, 0}, {3, 0}, {4, 1}, {5, 1}, {6, 2}, {7, 2}, {9, 2}, {10, 3}, {12, 4}, {13, 4},
            {TRILLION - 1, 333333333332L}, {TRILLION, 333333333333L}};
        for (long[] row : rows) {
            due("often(3, 0, " + row[0] + ")", x.often(3, 0, row[0]), row[1]);
        }
        for (long n : new long[] {-1, TRILLION + 1, LAST, Long.MIN_VALUE, Long.MAX_VALUE}) {
            Due.refused("often(1, 0, " + n + ")", y -> y.often(1, 0, n), BAD);
        }
    }

    /** "from d on": d is one of them, d and n is not. */
    static void oftenBeginsWithTheDayItself() {
        OwnSunday x = Due.laid("w12,12;h0,5,1,0;");
        due("often(1, 5, 1)", x.often(1, 5, 1), 0);
        due("often(1, 4, 1)", x.often(1, 4, 1), 1);
        due("often(1, 4, 2)", x.often(1, 4, 2), 1);
        due("often(1, 6, 11)", x.often(1, 6, 11), 11);
        due("often(1, 6, 12)", x.often(1, 6, 12), 11);
        due("often(1, 17, 12)", x.often(1, 17, 12), 11);
        due("often(1, 17, 13): both ends rest", x.often(1, 17, 13), 11);
        due("often(1, 10^15, 1): 4 of 12", x.often(1, LAST, 1), 1);
        due("often(1, 10^15, 2)", x.often(1, LAST, 2), 1);
        due("often(1, 10^15, 10^12): 83333333333 weeks and 4 days", x.often(1, LAST, TRILLION), 916666666666L);
    }

    /** Of those who never are it is 0, and no NONE. */
    static void oftenIs0OfThoseWhoNeverAre() {
        OwnSunday x = Due.laid("w2,2;h0,0,1,0;h1,1,1,0;");
        due("often(3, 0, 10^12)", x.often(3, 0, TRILLION), 0);
        due("often(3, 0, 0)", x.often(3, 0, 0), 0);
        due("often(3, 0, -1)", x.often(3, 0, -1), BAD);
    }

    // ---- longest

    /** "the most DAYS on end, of those from 0 to two PERIODS less 1": runs over the border of a PERIOD are whole. */
    static void waitsGoOnOverAPeriodsBorder() {
        for (int first = 0; first < 12; first++) {
            for (int days = 1; days <= 10; days++) {
                StringBuilder text = new StringBuilder("w12,12;");
                for (int k = 0; k < days; k++) {
                    text.append("h").append(k % 2).append(",").append((first + k) % 12).append(",1,0;");
                }
                due("longest of " + text, Due.laid(text.toString()).longest((1 << days) - 1), days);
            }
        }
    }

    /** The longest of several waits, and 1 of one house, whatever its week. */
    static void theLongestWaitCounts() {
        for (int length = 2; length <= 12; length++) {
            due("longest(1)", Due.laid("w" + length + ",12;h0," + (length - 1) + ",1,0;").longest(1), 1);
        }
        OwnSunday x = Due.laid("w12,12;h0,1,1,0;h0,2,1,0;h0,4,1,0;h0,5,1,0;h0,6,1,0;h0,8,1,0;");
        due("longest(63)", x.longest(63), 3);
        due("longest(35)", x.longest(35), 2);
        due("longest(36)", x.longest(36), 1);
        // The one day of 12 on which all are up is 11: 11 days of waiting, and no more than that.
        x = Due.laid("w3,4;h0,0,1,0;h0,1,1,0;h1,0,1,0;h1,1,1,0;h1,2,1,0;");
        due("longest(31)", x.longest(31), 11);
        x = Due.laid("w3,4;h0,1,1,0;h0,2,1,0;h1,1,1,0;h1,2,1,0;h1,3,1,0;");
        due("longest(31): up on 0 and 12", x.longest(31), 11);
    }

    /** "none (they never are)". */
    static void whoNeverAreUpTogetherHaveNoWait() {
        OwnSunday x = Due.laid("w2,3;h0,0,1,0;h0,1,1,0;h1,0,1,0;h1,1,1,0;h1,2,1,0;");
        due("longest(3)", x.longest(3), NONE);
        due("longest(28)", x.longest(28), NONE);
        due("longest(31)", x.longest(31), NONE);
        due("longest(32): BAD", x.longest(32), BAD);
        due("longest(12)", x.longest(12), 2);
    }

    // ---- street

    /** "the first DAY from d on on which all HOUSES of a STREET rest". */
    static void streetBeginsWithTheDayItself() {
        OwnSunday x = Due.laid("w11,12;h0,10,1,0;h1,11,1,0;h0,0,1,1;h1,0,1,1;h1,7,1,3;");
        long[][] rows = {{0, 0, 131}, {0, 131, 131}, {0, 132, 263}, {0, 130, 131}, {1, 0, 0}, {1, 1, 132},
            {1, 132, 132}, {3, 0, 7}, {3, 7, 7}, {3, 8, 19}};
        for (long[] row : rows) {
            due("street(" + row[0] + ", " + row[1] + ")", x.street((int) row[0], row[1]), row[2]);
        }
        due("street(0, 0) of ten", Due.laid(TEN).street(0, 1), 7);
    }

    /** "none (also of no HOUSES)"; BAD is ahead of it. */
    static void streetMayFindNone() {
        OwnSunday x = Due.laid("w4,6;h0,0,1,1;h0,1,1,1;h0,0,1,2;h1,1,1,2;");
        due("street(0, 0): no houses", x.street(0, 0), NONE);
        due("street(3, 10^15): no houses", x.street(3, LAST), NONE);
        due("street(1, 0): never", x.street(1, 0), NONE);
        due("street(2, 0): never, an even and an odd day", x.street(2, 0), NONE);
        due("street(0, -1)", x.street(0, -1), BAD);
        due("street(1, 10^15 and 1)", x.street(1, LAST + 1), BAD);
        due("street(4, 0)", x.street(4, 0), BAD);
    }

    /** "STREET T (0 to 3)", "BAD". */
    static void streetIsFrom0To3() {
        OwnSunday x = Due.laid("h0,0,1,0;h0,1,1,1;h0,2,1,2;h0,3,1,3;");
        for (int t = 0; t <= 3; t++) {
            due("street(" + t + ", 0)", x.street(t, 0), t);
        }
        for (int t : new int[] {-1, 4, FAR[0], FAR[1]}) {
            Due.refused("street(" + t + ", 0)", y -> y.street(t, 0), BAD);
        }
    }

    // ---- same

    /** "the most HOUSES that rest on one DAY": one at least, ten at most. */
    static void sameIsFrom1To10() {
        StringBuilder apart = new StringBuilder("w10,10;");
        for (int n = 1; n <= 10; n++) {
            due("same(0) of " + n + " together", Due.laid("h0,0,1,0;".repeat(n)).same(0), n);
            apart.append("h0,").append(10 - n).append(",1,0;");
            due("same(0) of " + n + " apart", Due.laid(apart.toString()).same(0), 1);
            due("same(1) of " + n + " apart", Due.laid(apart.toString()).same(1), 10 - n);
        }
    }

    /** "the first such DAY from 0 on": 0, the last of the longest PERIOD, the first of several. */
    static void sameTellsTheFirstSuchDay() {
        due("same(1)", Due.laid("w11,12;h0,0,0,0;h1,0,0,0;").same(1), 0);
        due("same(1)", Due.laid("w11,12;h0,10,0,0;h1,11,0,0;").same(1), 131);
        due("same(1)", Due.laid("w12,11;h0,11,0,0;h1,10,0,0;h1,10,0,0;").same(1), 131);
        due("same(1): 2 and 3 alike", Due.laid("h0,3,0,0;h0,3,0,0;h0,2,0,0;h0,2,0,0;h0,1,0,0;").same(1), 2);
        // Days of weeks of 4 and 6 that never meet, an even and an odd one.
        OwnSunday x = Due.laid("w4,6;h0,3,0,0;h1,2,0,0;");
        due("same(0)", x.same(0), 1);
        due("same(1)", x.same(1), 2);
    }

    /** "how many (what = 0), the day (1). BAD." */
    static void sameIsAskedFor0And1() {
        for (int what : new int[] {-1, 2, FAR[0], FAR[1]}) {
            Due.refused("same(" + what + ")", x -> x.same(what), BAD);
        }
    }

    // ---- harvest

    /** "of h (1 to 1000000000000)". */
    static void harvestsAreOf1ToATrillion() {
        OwnSunday x = Due.laid("w2,2;h0,0,1,0;");
        // One hand on each odd day.
        long[][] rows = {{0, 1, 2}, {1, 1, 1}, {0, 2, 4}, {1, 2, 3}, {0, TRILLION - 1, 2 * TRILLION - 2},
            {0, TRILLION, 2 * TRILLION}, {1, TRILLION, 2 * TRILLION - 1}, {LAST, TRILLION, 2 * TRILLION}};
        for (long[] row : rows) {
            due("harvest(0, " + row[0] + ", " + row[1] + ")", x.harvest(0, row[0], row[1]), row[2]);
        }
        for (long h : new long[] {0, -1, TRILLION + 1, LAST, Long.MIN_VALUE, Long.MAX_VALUE}) {
            Due.refused("harvest(0, 0, " + h + ")", y -> y.harvest(0, 0, h), BAD);
        }
    }

    /** "how many days till h are done": the day on which the last is done is counted, idle ones behind it are not. */
    static void harvestsEndWithTheDayOfTheLast() {
        // Hands by day of 4: 3, 0, 3, 3 (all rest on 1).
        OwnSunday x = Due.laid("w4,4;h0,1,1,0;h0,1,1,0;h1,1,1,0;");
        long[][] rows = {{0, 1, 1}, {0, 3, 1}, {0, 4, 3}, {0, 6, 3}, {0, 7, 4}, {0, 9, 4}, {0, 10, 5}, {0, 12, 5},
            {0, 13, 7}, {1, 1, 2}, {1, 9, 4}, {1, 10, 6}, {2, 9, 3}, {2, 10, 5}, {2, 18, 7}, {2, 19, 9}};
        for (long[] row : rows) {
            due("harvest(0, " + row[0] + ", " + row[1] + ")", x.harvest(0, row[0], row[1]), row[2]);
        }
    }

    /** Ten hands, the most there are. */
    static void tenHandsHarvest() {
        OwnSunday x = Due.laid("w2,2;" + TEN);
        due("harvest(0, 1, 10)", x.harvest(0, 1, 10), 1);
        due("harvest(0, 1, 11)", x.harvest(0, 1, 11), 3);
        due("harvest(0, 0, 10^12)", x.harvest(0, 0, TRILLION), 200000000000L);
    }

    /** "none": no house has the skill; BAD is ahead of it. */
    static void harvestMayHaveNoHands() {
        OwnSunday x = Due.laid("h0,0,23,0;");
        due("harvest(3, 0, 1)", x.harvest(3, 0, 1), NONE);
        due("harvest(3, 10^15, 10^12)", x.harvest(3, LAST, TRILLION), NONE);
        due("harvest(3, 0, 0)", x.harvest(3, 0, 0), BAD);
        due("harvest(3, -1, 1)", x.harvest(3, -1, 1), BAD);
        due("harvest(3, 0, 10^12 and 1)", x.harvest(3, 0, TRILLION + 1), BAD);
        due("harvest(4, 0, 1)", x.harvest(4, 0, 1), 2);
    }

    /** "SKILL S (0 to 4)", "BAD". */
    static void harvestIsByASkillFrom0To4() {
        OwnSunday x = Due.laid("h0,0,31,0;");
        for (int s = 0; s < 5; s++) {
            due("harvest(" + s + ", 1, 6)", x.harvest(s, 1, 6), 6);
        }
        for (int s : new int[] {-1, 5, FAR[0], FAR[1]}) {
            Due.refused("harvest(" + s + ", 0, 1)", y -> y.harvest(s, 0, 1), BAD);
        }
    }

    public static void main(String[] args) throws Exception {
        Due.runAll(DaysBoundariesTest.class);
    }
}
