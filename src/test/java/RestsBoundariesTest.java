/** The boundaries that the document names of rests: promises 17 to 22, a test for each sentence. */
public final class RestsBoundariesTest {
    private static final int BAD = Due.BAD, FULL = Due.FULL, NONE = Due.NONE;
    private static final long LAST = Due.LAST_DAY;
    private static final int LEAST = Integer.MIN_VALUE, MOST = Integer.MAX_VALUE;

    private static void due(String what, long got, long want) {
        Due.due(what, got, want);
    }

    private static void settledAre(String text, int ways, int same, int... rests) {
        OwnSunday x = Due.laid(text);
        due("settled(-1) of " + text, x.settled(-1), ways);
        due("settled(-2) of " + text, x.settled(-2), same);
        int k = 0;
        for (int i = 0; i < x.count(0); i++) {
            boolean isNew = x.house(i, 4) == 1;
            due("settled(" + i + ") of " + text, x.settled(i), isNew ? rests[k] : BAD);
            k += isNew ? 1 : 0;
        }
    }

    private static void yearsAre(OwnSunday x, int w, int... want) {
        for (int what = 0; what < 5; what++) {
            due("years(" + w + ", " + what + ")", x.years(w, what), want[what]);
        }
    }

    /** All days of a week but one have a house that rests; another house is to come. */
    private static StringBuilder allDaysBut(int gap, int length) {
        StringBuilder text = new StringBuilder("w" + length + ",12;");
        for (int r = 0; r < length; r++) {
            if (r != gap) {
                text.append("h0,").append(r).append(",1,0;");
            }
        }
        return text;
    }

    // ---- settled

    /** "all ways to give the NEW HOUSES rests (of their WEEKS": one, two and three of them, the least and longest weeks. */
    static void settledGoesThroughAllWays() {
        settledAre("w2,3;h0,0,0,0;n0;", 2, 1, 0);
        settledAre("w2,3;h1,0,0,0;n0;", 3, 1, 0);
        settledAre("w2,12;h0,0,0,0;h1,0,0,0;n0;n1;", 24, 1, 0, 1);
        settledAre("w2,2;h0,0,0,0;h1,0,0,0;h0,0,0,0;n0;n1;n2;", 8, 2, 0, 0, 1);
        settledAre("w12,12;h0,0,0,0;h1,0,0,0;h0,0,0,0;n0;n1;n2;", 1728, 1, 0, 1, 2);
        settledAre("w12,5;h0,0,0,0;h1,0,0,0;h0,0,0,0;n0;n1;n2;", 720, 2, 0, 0, 1);
    }

    /** The first and the last rest of a week, and each between, may be the only one by which all goes on. */
    static void anyRestOfAWeekMayBeTheOnlyOne() {
        for (int length = 2; length <= 10; length++) {
            for (int r = 0; r < length; r++) {
                StringBuilder text = allDaysBut(r, length);
                int newOne = length - 1;
                text.append("h0,0,1,0;n").append(newOne).append(";m0,").append(length - 1).append(",1;");
                settledAre(text.toString(), 1, 1, r);
            }
        }
    }

    /** "no WORK is SHORT on any day": of several works each, and days far off, too. */
    static void settledIsByAllWorksAndAllDays() {
        // Days of a week of 4 and one of 6 meet, if both are even or both are odd.
        settledAre("w4,6;h0,1,1,0;h1,0,1,0;n1;m0,1,1;", 3, 1, 0);
        settledAre("w4,6;h0,2,1,0;h1,0,1,0;n1;m0,1,1;", 3, 1, 1);
        settledAre("w11,12;h0,10,1,0;h1,0,1,0;n1;m0,1,1;", 0, NONE, NONE);
        // Work 0 forbids rest 0, work 5 rest 1.
        settledAre("w3,3;h0,0,1,0;h0,1,2,0;h0,0,3,0;n2;m0,1,1;m0,1,1;m0,1,1;m0,1,1;m0,1,1;m1,1,1;", 1, 1, 2);
        settledAre("w3,3;h0,0,1,0;h0,1,2,0;h0,0,3,0;n2;m1,1,1;", 2, 1, 2);
        settledAre("w3,3;h0,0,1,0;h0,1,2,0;h0,0,3,0;n2;", 3, 1, 2);
    }

    /** "by which SAME is least": not the first way, if a later one is fairer. */
    static void theFairestIsOfTheLeastSame() {
        settledAre("w12,12;h0,0,0,0;h0,1,0,0;h0,2,0,0;h1,0,0,0;n3;", 12, 1, 3);
        settledAre("w3,3;h0,0,0,0;h0,0,0,0;h0,1,0,0;h1,0,0,0;n3;", 3, 2, 1);
        settledAre("w3,3;h0,0,0,0;h0,0,0,0;h0,1,0,0;h0,1,0,0;h1,0,0,0;n4;", 3, 2, 2);
        settledAre("w2,2;h0,0,0,0;h0,0,0,0;h0,0,0,0;h0,0,0,0;h1,0,0,0;n4;", 2, 4, 1);
    }

    /** "of several the first by the rest of the lowest NEW one, then the next, ..". */
    static void ofLikeOnesTheFirstByTheLowestNewOne() {
        settledAre("w3,3;h0,2,0,0;h0,2,0,0;h0,2,0,0;n0;n1;n2;", 27, 1, 0, 1, 2);
        settledAre("w2,2;h0,0,0,0;h0,1,0,0;h0,1,0,0;n1;n2;", 4, 2, 0, 1);
        settledAre("w3,3;h0,1,0,0;h0,1,0,0;h0,1,0,0;n1;n2;", 9, 1, 0, 2);
        settledAre("w4,4;h0,3,0,0;h0,3,0,0;n0;h0,3,0,0;n2;", 16, 1, 0, 1);
        settledAre("w5,5;h1,0,0,0;n0;h0,4,0,0;h0,4,0,0;", 5, 2, 0);
    }

    /** "all else as it is": the others' rests count, those that NEW ones have now do not. */
    static void settledIsByTheTownAsItIs() {
        OwnSunday x = Due.laid("w3,3;h0,0,1,0;h0,0,1,0;n1;m0,1,1;");
        for (int r = 0; r < 3; r++) {
            x.change(1, r);
            due("settled(-1)", x.settled(-1), 2);
            due("settled(1)", x.settled(1), 1);
        }
        x.change(0, 1);
        due("settled(1)", x.settled(1), 0);
        x.change(0, 2);
        due("settled(1)", x.settled(1), 0);
        x.wed(1, 0);
        due("settled(-1): whatever the day that both have", x.settled(-1), 2);
    }

    /** "none": "NONE (for -2, HOUSES)", and 0 ways; BAD is ahead of NONE. */
    static void settledMayFindNone() {
        OwnSunday x = Due.laid("w2,2;h0,0,1,0;h0,0,1,0;n1;m0,2,1;");
        due("settled(-1)", x.settled(-1), 0);
        due("settled(-2)", x.settled(-2), NONE);
        due("settled(1)", x.settled(1), NONE);
        for (int i : new int[] {0, 2, -3, LEAST, MOST}) {
            due("settled(" + i + ")", x.settled(i), BAD);
        }
        settledAre("h0,0,1,0;n0;m0,1,1;", 0, NONE, NONE);
        settledAre("h0,0,0,0;n0;m0,1,1;", 0, NONE, NONE);
    }

    /** With none that is NEW there is one way, to leave all as it is, if no work is short by it. */
    static void settledOfNoNewOnes() {
        settledAre("w2,2;h0,0,1,0;h0,1,1,0;m0,1,1;", 1, 1);
        settledAre("w2,2;h0,0,1,0;h0,0,1,0;m0,1,1;", 0, NONE);
        settledAre("h0,0,1,0;h0,0,1,0;", 1, 2);
    }

    /** "how many ways (i = -1), SAME (-2), the rest of HOUSE i", "BAD (a HOUSE that is not NEW, too)". */
    static void settledIsAskedForNewOnes() {
        for (int i : new int[] {-3, 0, 3, 9, 10, LEAST, MOST}) {
            Due.refused("settled(" + i + ")", x -> x.settled(i), BAD);
        }
        OwnSunday x = Due.laid("h0,0,0,0;".repeat(10) + "n0;n9;");
        for (int i = 0; i < 10; i++) {
            due("settled(" + i + ")", x.settled(i), i == 0 || i == 9 ? 1 : BAD);
        }
        due("settled(10)", x.settled(10), BAD);
    }

    // ---- years

    /** "how few HOUSES (0, 1, 2)": none, one, two, and more than two, which is none. */
    static void yearsNeed0To2Changes() {
        // Of five in a week of 5 four must be up: each on a day of its own.
        String[] rests = {"01234", "01233", "01222", "01111", "00000"};
        int[][] want = {{0, NONE, NONE, NONE, NONE}, {1, 3, 4, NONE, NONE}, {2, 2, 3, 3, 4},
            {NONE, NONE, NONE, NONE, NONE}, {NONE, NONE, NONE, NONE, NONE}};
        for (int k = 0; k < rests.length; k++) {
            StringBuilder text = new StringBuilder("w5,5;");
            for (char r : rests[k].toCharArray()) {
                text.append("h0,").append(r).append(",1,0;");
            }
            yearsAre(Due.laid(text + "m0,4,1;"), 0, want[k]);
        }
    }

    /** "other rests (of their WEEKS)": the first and the last one, and each between, may be the only one. */
    static void anyRestOfAWeekMayBeTheOneChange() {
        for (int length = 2; length <= 10; length++) {
            for (int r = 0; r < length; r++) {
                StringBuilder text = allDaysBut(r, length);
                text.append("h0,").append(r == 0 ? 1 : 0).append(",1,0;m0,").append(length - 1).append(",1;");
                yearsAre(Due.laid(text.toString()), 0, 1, 0, r, NONE, NONE);
            }
        }
    }

    /** "the lower one, its rest, the other one, its rest: of several the first by these in this row". */
    static void yearsTellTheFirstOfSeveral() {
        yearsAre(Due.laid("w4,4;h0,3,1,0;h0,3,1,0;h0,3,1,0;m0,1,1;"), 0, 1, 0, 0, NONE, NONE);
        yearsAre(Due.laid("w4,4;h0,0,1,0;h0,0,1,0;h0,0,1,0;m0,1,1;"), 0, 1, 0, 1, NONE, NONE);
        yearsAre(Due.laid("w4,4;h0,0,1,0;h0,0,1,0;h0,0,1,0;m0,2,1;"), 0, 2, 0, 1, 1, 2);
        yearsAre(Due.laid("w4,4;h0,3,1,0;h0,3,1,0;h0,3,1,0;m0,2,1;"), 0, 2, 0, 0, 1, 1);
        yearsAre(Due.laid("w4,4;h0,3,0,0;h0,3,1,0;h0,3,0,0;h0,3,1,0;h0,3,1,0;m0,2,1;"), 0, 2, 1, 0, 3, 1);
    }

    /** The highest houses, when no change of a lower one helps. */
    static void yearsMayChangeTheHighestHouses() {
        String idle = "h0,0,0,0;";
        // House 0 rests on all even days and house 8 on 1 of 4: there is but 3 for house 9.
        OwnSunday x = Due.laid("w2,4;h0,0,1,0;" + idle.repeat(7) + "h1,1,1,0;h1,0,1,0;m0,2,1;");
        yearsAre(x, 0, 1, 9, 3, NONE, NONE);
        // House 0 rests on 0 and 3 of 6, others on 1 and 2: there are but 4 and 5 for the houses 8 and 9.
        x = Due.laid("w3,6;h0,0,1,0;" + idle.repeat(5) + "h1,1,1,0;h1,2,1,0;h1,0,1,0;h1,0,1,0;m0,4,1;");
        yearsAre(x, 0, 2, 8, 4, 9, 5);
    }

    /** A town of one house, one whose work none can do, and one that needs more than there are. */
    static void yearsMayFindNone() {
        yearsAre(Due.laid("h0,0,1,0;m0,1,1;"), 0, NONE, NONE, NONE, NONE, NONE);
        yearsAre(Due.laid("h0,0,1,0;m1,1,1;"), 0, NONE, NONE, NONE, NONE, NONE);
        yearsAre(Due.laid("h0,0,1,0;h0,1,1,0;m0,3,1;"), 0, NONE, NONE, NONE, NONE, NONE);
        yearsAre(Due.laid("h0,0,1,0;h0,1,1,0;m0,2,1;"), 0, NONE, NONE, NONE, NONE, NONE);
        OwnSunday x = Due.laid("h0,0,1,0;m0,1,1;");
        due("years(0, 5): BAD ahead of NONE", x.years(0, 5), BAD);
        due("years(1, 0): BAD ahead of NONE", x.years(1, 0), BAD);
    }

    /** All houses may change, the NEW ones by the rest that they have now. */
    static void yearsTakeNewOnesAsTheyAre() {
        yearsAre(Due.laid("w3,3;h0,0,1,0;h0,0,1,0;n0;n1;m0,1,1;"), 0, 1, 0, 1, NONE, NONE);
        yearsAre(Due.laid("w3,3;h0,0,1,0;h0,1,1,0;n0;n1;m0,1,1;"), 0, 0, NONE, NONE, NONE, NONE);
    }

    /** "how many (what = 0), the first HOUSE (1), its rest (2), the second (3), its rest (4", "BAD". */
    static void yearsAreAskedFor0To4() {
        for (int what : new int[] {-1, 5, LEAST, MOST}) {
            Due.refused("years(0, " + what + ")", x -> x.years(0, what), BAD);
            Due.refused("years(2, " + what + ")", x -> x.years(2, what), BAD);
        }
    }

    /** "WORKS: such as there are". */
    static void yearsAreOfAWorkThatThereIs() {
        for (int w : new int[] {-1, 2, 6, LEAST, MOST}) {
            Due.refused("years(" + w + ", 0)", x -> x.years(w, 0), BAD);
        }
        due("years(0, 0) of no works", new OwnSunday().years(0, 0), BAD);
        OwnSunday x = Due.laid("w2,2;h0,0,1,0;h0,1,1,0;" + "m0,1,1;".repeat(6));
        due("years(5, 0)", x.years(5, 0), 0);
        due("years(6, 0)", x.years(6, 0), BAD);
    }

    // ---- wedding

    /** "on how many DAYS of a PERIOD (from 0 on) some WORK is SHORT then: the fewer": from none to all of them. */
    static void aWeddingIsShortOnNoneToAllDays() {
        due("no works", Due.laid("h0,0,1,0;h1,1,1,0;").wedding(0, 1, 0), 0);
        due("never short", Due.laid("h0,0,1,0;h1,1,1,0;h0,1,1,0;m0,1,1;").wedding(0, 1, 0), 0);
        due("always short", Due.laid("w11,12;h0,0,1,0;h1,1,1,0;m0,3,1;").wedding(0, 1, 0), 132);
        due("always short", Due.laid("w2,2;h0,0,1,0;h1,1,1,0;m0,3,1;").wedding(0, 1, 0), 2);
        due("short on the first day", Due.laid("w4,4;h0,0,1,0;h1,0,1,0;m0,1,1;").wedding(0, 1, 0), 1);
        due("short on the last day", Due.laid("w4,4;h0,3,1,0;h1,3,1,0;m0,1,1;").wedding(0, 1, 0), 1);
        due("short on 12 of 132 by the one, 11 by the other",
            Due.laid("w11,12;h0,10,1,0;h1,11,1,0;m0,1,1;").wedding(0, 1, 0), 11);
    }

    /** "by whose (0 the first, also of like ones, 1 the second)". */
    static void aWeddingIsByTheFirstOfLikeOnes() {
        OwnSunday x = Due.laid("w11,12;h0,10,1,0;h1,11,1,0;h0,10,0,0;m0,2,1;");
        due("wedding(0, 1, 1): 12 days by the first, 11 by the second", x.wedding(0, 1, 1), 1);
        due("wedding(1, 0, 1)", x.wedding(1, 0, 1), 0);
        due("wedding(0, 2, 1): the same day", x.wedding(0, 2, 1), 0);
        due("wedding(2, 0, 1)", x.wedding(2, 0, 1), 0);
        x = Due.laid("w6,6;h0,0,1,0;h1,4,1,0;m0,1,1;");
        due("wedding(0, 1, 1): as many days by another day", x.wedding(0, 1, 1), 0);
        due("wedding(1, 0, 1)", x.wedding(1, 0, 1), 0);
        due("wedding(0, 1, 1) without works", Due.laid("h0,0,1,0;h1,4,1,0;").wedding(0, 1, 1), 0);
    }

    /** "BAD (one twice, too)". */
    static void aWeddingIsOfTwoHousesThatThereAre() {
        for (int what = 0; what < 2; what++) {
            int asked = what;
            for (int i : new int[] {-1, 3, 10, LEAST, MOST}) {
                Due.refused("wedding(" + i + ", 0, " + what + ")", x -> x.wedding(i, 0, asked), BAD);
                Due.refused("wedding(0, " + i + ", " + what + ")", x -> x.wedding(0, i, asked), BAD);
                Due.refused("wedding(" + i + ", " + i + ", " + what + ")", x -> x.wedding(i, i, asked), BAD);
            }
            for (int i = 0; i < 3; i++) {
                int one = i;
                Due.refused("wedding(" + i + ", " + i + ", " + what + ")", x -> x.wedding(one, one, asked), BAD);
            }
        }
        due("wedding(0, 0, 0) in a town of one", new OwnSunday().wedding(0, 0, 0), BAD);
        OwnSunday ten = Due.laid("w2,2;" + "h0,0,1,0;".repeat(10) + "m0,9,1;");
        due("wedding(0, 9, 0)", ten.wedding(0, 9, 0), 1);
        due("wedding(9, 8, 0)", ten.wedding(9, 8, 0), 1);
        due("wedding(9, 10, 0)", ten.wedding(9, 10, 0), BAD);
    }

    /** "days SHORT (what = 0), whose (1)". */
    static void aWeddingIsAskedFor0And1() {
        for (int what : new int[] {-1, 2, LEAST, MOST}) {
            Due.refused("wedding(0, 1, " + what + ")", x -> x.wedding(0, 1, what), BAD);
        }
    }

    // ---- seen

    private static OwnSunday seenTwenty() {
        OwnSunday x = Due.laid("w12,12;h0,0,1,0;n0;m0,1,1;");
        for (int k = 0; k < 20; k++) {
            x.seen(12 + k % 11, 0, true);
        }
        return x;
    }

    /** "20 at most", "FULL: 20", and nothing changes then. */
    static void seenAre20AtMost() {
        OwnSunday x = Due.laid("w12,12;h0,0,1,0;n0;m0,1,1;");
        for (int k = 1; k <= 20; k++) {
            due("seen " + k, x.seen(k % 11, 0, true), k);
            due("count(4)", x.count(4), k);
        }
        due("seen 21", x.seen(0, 0, true), FULL);
        due("count(4)", x.count(4), 20);
        for (boolean went : new boolean[] {true, false}) {
            Due.changesNothing("seen(11, 0, " + went + ")", RestsBoundariesTest::seenTwenty,
                y -> y.seen(11, 0, went), FULL);
            Due.changesNothing("seen(0, 0, " + went + ")", RestsBoundariesTest::seenTwenty,
                y -> y.seen(0, 0, went), FULL);
        }
    }

    /** "Of several the first in this order": BAD is ahead of FULL. */
    static void seenIsBadAheadOfFull() {
        for (int w : new int[] {-1, 1, 6, LEAST, MOST}) {
            Due.changesNothing("seen(0, " + w + ")", RestsBoundariesTest::seenTwenty, x -> x.seen(0, w, true), BAD);
        }
        for (long d : new long[] {-1, LAST + 1}) {
            Due.changesNothing("seen(" + d + ", 0)", RestsBoundariesTest::seenTwenty, x -> x.seen(d, 0, true), BAD);
        }
    }

    /** "WORKS: such as there are". */
    static void seenIsOfAWorkThatThereIs() {
        for (int w : new int[] {-1, 2, 6, LEAST, MOST}) {
            Due.refused("seen(0, " + w + ", true)", x -> x.seen(0, w, true), BAD);
            Due.refused("seen(0, " + w + ", false)", x -> x.seen(0, w, false), BAD);
        }
        due("seen(0, 0) of no works", new OwnSunday().seen(0, 0, true), BAD);
        OwnSunday x = Due.laid("h0,0,1,0;" + "m0,1,1;".repeat(6));
        due("seen(0, 5)", x.seen(0, 5, true), 1);
        due("seen(0, 6)", x.seen(0, 6, true), BAD);
    }

    /** What is told twice is two that were SEEN. */
    static void seenTwiceIsTwo() {
        OwnSunday x = Due.laid("h0,0,1,0;n0;m0,1,1;");
        due("seen", x.seen(3, 0, true), 1);
        due("seen", x.seen(3, 0, true), 2);
        due("fits(-1)", x.fits(-1, false), 6);
        due("forget()", x.forget(), 2);
    }

    // ---- forget

    /** "Nothing is SEEN: how many were": of none and of all twenty; then there is room for twenty. */
    static void forgetTellsHowManyWereSeen() {
        OwnSunday x = seenTwenty();
        due("fits(-1)", x.fits(-1, false), 1);
        due("forget()", x.forget(), 20);
        due("count(4)", x.count(4), 0);
        due("fits(-1)", x.fits(-1, false), 12);
        due("forget()", x.forget(), 0);
        for (int k = 1; k <= 20; k++) {
            due("seen", x.seen(0, 0, false), k);
        }
        due("seen", x.seen(0, 0, false), FULL);
        due("fits(0, false): told newly", x.fits(0, false), 0);
        due("forget() in a new object", new OwnSunday().forget(), 0);
    }

    /** Neither the town nor what is KEPT is forgotten. */
    static void forgetLeavesAllElse() {
        OwnSunday x = Due.lively();
        due("forget()", x.forget(), 2);
        due("count(3)", x.count(3), 2);
        due("count(5)", x.count(5), 2);
        due("house(0, 1)", x.house(0, 1), 4);
        due("back()", x.back(), 1);
        due("count(4)", x.count(4), 2);
        due("back()", x.back(), 0);
        due("count(4)", x.count(4), 1);
    }

    // ---- fits

    /** With nothing SEEN all ways fit, the first of them is 0, .. and ALIKE has all rests of the week. */
    static void allWaysFitWhenNothingWasSeen() {
        for (int length = 2; length <= 12; length++) {
            OwnSunday x = Due.laid("w" + length + ",12;h0,1,1,0;h0,1,1,0;h1,1,1,0;n0;n1;n2;m0,9,9;");
            due("fits(-1)", x.fits(-1, false), length * length * 12);
            due("fits(0, false)", x.fits(0, false), 0);
            due("fits(1, true)", x.fits(1, true), (1 << length) - 1);
            due("fits(2, false)", x.fits(2, false), 0);
            due("fits(2, true)", x.fits(2, true), 4095);
        }
    }

    /** One that did not go on tells the rest, one that did tells what it is not: the first, the last, each between. */
    static void oneThatWasSeenTellsTheRest() {
        for (int length = 2; length <= 12; length++) {
            for (int r = 0; r < length; r++) {
                OwnSunday x = Due.laid("w" + length + ",12;h0,0,1,0;n0;m0,1,1;");
                x.seen(3L * length + r, 0, false);
                due("fits(-1)", x.fits(-1, false), 1);
                due("fits(0, false)", x.fits(0, false), r);
                due("fits(0, true)", x.fits(0, true), 1 << r);
                x.forget();
                x.seen(5L * length + r, 0, true);
                due("fits(-1)", x.fits(-1, false), length - 1);
                due("fits(0, false)", x.fits(0, false), r == 0 ? 1 : 0);
                due("fits(0, true)", x.fits(0, true), ((1 << length) - 1) & ~(1 << r));
            }
        }
    }

    /** "all that was SEEN was so": the first, the tenth and the last of twenty count alike. */
    static void eachOfTwentyThatWereSeenCounts() {
        for (int decisive = 0; decisive < 20; decisive++) {
            OwnSunday x = Due.laid("w12,12;h0,0,1,0;h0,3,2,0;n0;m0,1,1;m1,1,1;");
            for (int k = 0; k < 20; k++) {
                x.seen(k == decisive ? 7 : 3 + 12 * k, k == decisive ? 0 : 1, false);
            }
            due("fits(-1)", x.fits(-1, false), 1);
            due("fits(0, false)", x.fits(0, false), 7);
        }
    }

    /** "the first of them (by rests as in SETTLED)": by the lowest NEW one, then the next. */
    static void theFirstFitIsByTheLowestNewOne() {
        // Two of three are needed and house 0 rests on 0: one of the NEW ones at least does so, too.
        OwnSunday x = Due.laid("w3,3;h0,0,1,0;h0,2,1,0;h1,2,1,0;n1;n2;m0,2,1;");
        x.seen(0, 0, false);
        due("fits(-1)", x.fits(-1, false), 5);
        due("fits(1, false)", x.fits(1, false), 0);
        due("fits(2, false)", x.fits(2, false), 0);
        x.seen(1, 0, true);
        x.seen(4, 0, true);
        due("fits(-1)", x.fits(-1, true), 5);
        x.change(0, 1);
        x.forget();
        // Now both must rest on 0, or on 1 one of them.
        x.seen(0, 0, true);
        x.seen(1, 0, false);
        due("fits(-1)", x.fits(-1, false), 5);
        due("fits(1, false)", x.fits(1, false), 0);
        due("fits(2, false)", x.fits(2, false), 1);
        due("fits(1, true)", x.fits(1, true), 7);
        due("fits(2, true)", x.fits(2, true), 7);
    }

    /** "none": NONE, and 0 ways; BAD is ahead of NONE. */
    static void fitsMayFindNone() {
        OwnSunday x = Due.laid("h0,0,1,0;h0,0,1,0;n1;m0,1,1;");
        x.seen(3, 0, false);
        due("fits(-1, false)", x.fits(-1, false), 0);
        due("fits(-1, true)", x.fits(-1, true), 0);
        due("fits(1, false)", x.fits(1, false), NONE);
        due("fits(1, true)", x.fits(1, true), NONE);
        for (int i : new int[] {0, 2, -2, LEAST, MOST}) {
            due("fits(" + i + ", false)", x.fits(i, false), BAD);
            due("fits(" + i + ", true)", x.fits(i, true), BAD);
        }
    }

    /** "(all else as it is now)". */
    static void fitsAreByTheTownAsItIsNow() {
        OwnSunday x = Due.laid("h0,0,1,0;h0,0,1,0;n1;m0,1,1;");
        x.seen(3, 0, false);
        due("fits(-1)", x.fits(-1, false), 0);
        x.change(0, 3);
        due("fits(-1)", x.fits(-1, false), 1);
        due("fits(1, false)", x.fits(1, false), 3);
        x.change(1, 5);
        due("fits(1, false): the rest it has now is no matter", x.fits(1, false), 3);
        x.change(0, 4);
        due("fits(-1)", x.fits(-1, false), 0);
    }

    /** With none that is NEW there is one way, if it fits. */
    static void fitsOfNoNewOnes() {
        OwnSunday x = Due.laid("h0,0,1,0;m0,1,1;");
        due("fits(-1)", x.fits(-1, false), 1);
        x.seen(7, 0, false);
        due("fits(-1)", x.fits(-1, true), 1);
        x.seen(8, 0, false);
        due("fits(-1)", x.fits(-1, false), 0);
        due("fits(0, false)", x.fits(0, false), BAD);
    }

    /** "BAD (a HOUSE that is not NEW, too)". */
    static void fitsAreAskedForNewOnes() {
        for (boolean alike : new boolean[] {false, true}) {
            for (int i : new int[] {-2, -3, 0, 3, 10, LEAST, MOST}) {
                Due.refused("fits(" + i + ", " + alike + ")", x -> x.fits(i, alike), BAD);
            }
        }
        OwnSunday x = Due.laid("h0,0,0,0;".repeat(10) + "n0;n9;");
        for (int i = 0; i < 10; i++) {
            due("fits(" + i + ", true)", x.fits(i, true), i == 0 || i == 9 ? 127 : BAD);
        }
        due("fits(10, true)", x.fits(10, true), BAD);
    }

    public static void main(String[] args) throws Exception {
        Due.runAll(RestsBoundariesTest.class);
    }
}
