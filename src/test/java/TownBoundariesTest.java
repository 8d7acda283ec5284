import java.math.BigInteger;

/** The boundaries that the document names of fires and changes: promises 23 to 29, a test for each sentence. */
public final class TownBoundariesTest {
    private static final int BAD = Due.BAD, NO = Due.NO, FULL = Due.FULL, NONE = Due.NONE;
    private static final long LAST = Due.LAST_DAY;
    private static final int LEAST = Integer.MIN_VALUE, MOST = Integer.MAX_VALUE;

    private static void due(String what, long got, long want) {
        Due.due(what, got, want);
    }

    // ---- fire

    /** "(((x times x) modulo 65521) modulo n), x being 7919 z and 1 together". */
    private static int daysTillFire(int z, int n) {
        BigInteger x = BigInteger.valueOf(z).multiply(BigInteger.valueOf(7919)).add(BigInteger.ONE);
        return x.multiply(x).mod(BigInteger.valueOf(65521)).mod(BigInteger.valueOf(n)).intValueExact();
    }

    /** The cook rests on the first day of 12, the other house, of a week of 11, is of no matter. */
    private static OwnSunday cookOf12() {
        return Due.laid("w12,11;h1,5,0,0;h0,0,0,0;c1;");
    }

    private static int cookOf12RestsAt(int z, int n, long d) {
        return (d + daysTillFire(z, n)) % 12 == 0 ? 1 : 0;
    }

    /** "by z (0 to 9999)": all of them. */
    static void firesAreByZFrom0To9999() {
        OwnSunday x = null;
        for (int z = 0; z <= 9999; z++) {
            if (z % 200 == 0) {
                x = cookOf12();
            }
            int d = 12 - daysTillFire(z, 999) % 12;
            due("fire(" + z + ", 999, " + d + ", 0)", x.fire(z, 999, d, 0), 1);
            due("fire(" + z + ", 999, " + (d + 1) + ", 0)", x.fire(z, 999, d + 1, 0), 0);
        }
        for (int z : new int[] {-1, 10000, LEAST, MOST}) {
            for (int what = 0; what < 3; what++) {
                int asked = what;
                Due.refused("fire(" + z + ", 1, 0, " + what + ")", y -> y.fire(z, 1, 0, asked), BAD);
            }
        }
    }

    /** "in n days (1 to 999)": all of them. */
    static void firesAreIn1To999Days() {
        OwnSunday x = null;
        for (int n = 1; n <= 999; n++) {
            if (n % 200 == 1) {
                x = cookOf12();
            }
            due("fire(9999, " + n + ", 0, 0)", x.fire(9999, n, 0, 0), cookOf12RestsAt(9999, n, 0));
            int d = 12 - daysTillFire(77, n) % 12;
            due("fire(77, " + n + ", " + d + ", 0)", x.fire(77, n, d, 0), 1);
        }
        for (int n : new int[] {0, -1, 1000, LEAST, MOST}) {
            for (int what = 0; what < 3; what++) {
                int asked = what;
                Due.refused("fire(0, " + n + ", 0, " + what + ")", y -> y.fire(0, n, 0, asked), BAD);
            }
        }
    }

    /** In one day the fire is on DAY d itself. */
    static void aFireInOneDayIsOnTheDay() {
        OwnSunday x = cookOf12();
        for (int z : new int[] {0, 1, 5000, 9999}) {
            due("fire(" + z + ", 1, 12, 0)", x.fire(z, 1, 12, 0), 1);
            due("fire(" + z + ", 1, 13, 0)", x.fire(z, 1, 13, 0), 0);
            due("fire(" + z + ", 1, 60, 1)", x.fire(z, 1, 60, 1), 0);
            due("fire(" + z + ", 1, 5, 1)", x.fire(z, 1, 5, 1), 1);
            due("fire(" + z + ", 1, 4, 1)", x.fire(z, 1, 4, 1), 2);
            due("fire(" + z + ", 1, 12, 2)", x.fire(z, 1, 12, 2), 100);
            due("fire(" + z + ", 1, 13, 2)", x.fire(z, 1, 13, 2), 0);
        }
    }

    /** From the last day on a fire is beyond it. */
    static void aFireMayBeBeyondTheLastDay() {
        OwnSunday x = cookOf12();
        for (int z = 0; z < 100; z++) {
            due("fire(" + z + ", 999, 10^15, 0)", x.fire(z, 999, LAST, 0), cookOf12RestsAt(z, 999, LAST));
        }
    }

    /** "of a hundred FIRES (z, z and 1, .. modulo 10000)": with and without the border in them. */
    static void aHundredFiresGoOnWith0Behind9999() {
        for (int z : new int[] {0, 1, 9899, 9900, 9901, 9950, 9998, 9999}) {
            for (int n : new int[] {2, 365, 999}) {
                int want = 0;
                for (int k = 0; k < 100; k++) {
                    want += cookOf12RestsAt((z + k) % 10000, n, 7);
                }
                due("fire(" + z + ", " + n + ", 7, 2)", cookOf12().fire(z, n, 7, 2), want);
            }
        }
    }

    /** "how many HOUSES are up": none, all ten. */
    static void atAFireNoneToTenAreUp() {
        OwnSunday x = Due.laid("h0,0,1,0;".repeat(10));
        due("fire(0, 1, 7, 1)", x.fire(0, 1, 7, 1), 0);
        due("fire(0, 1, 8, 1)", x.fire(0, 1, 8, 1), 10);
    }

    /** "1 or 0 (what = 0), HOUSES up (1), of a hundred (2). BAD." */
    static void fireIsAskedFor0To2() {
        for (int what : new int[] {-1, 3, LEAST, MOST}) {
            Due.refused("fire(0, 1, 0, " + what + ")", x -> x.fire(0, 1, 0, what), BAD);
        }
    }

    /** The cook's day is the one that he has now. */
    static void theCookRestsAsThingsStand() {
        OwnSunday x = Due.laid("w3,4;h0,0,0,0;h1,3,0,0;c1;");
        due("fire(0, 1, 3, 0)", x.fire(0, 1, 3, 0), 1);
        x.change(1, 0);
        due("fire(0, 1, 3, 0)", x.fire(0, 1, 3, 0), 0);
        due("fire(0, 1, 4, 0)", x.fire(0, 1, 4, 0), 1);
        x.wed(0, 1);
        due("fire(0, 1, 4, 0)", x.fire(0, 1, 4, 0), 0);
        due("fire(0, 1, 6, 0)", x.fire(0, 1, 6, 0), 1);
    }

    // ---- change

    /** "BAD (r of its WEEK)": from 0 to its length less 1, for each length and both weeks. */
    static void aRestIsChangedToOneOfItsWeek() {
        for (int length = 2; length <= 12; length++) {
            int other = length == 12 ? 2 : 12;
            for (int week = 0; week < 2; week++) {
                String weeks = week == 0 ? length + "," + other : other + "," + length;
                OwnSunday x = Due.laid("w" + weeks + ";h" + week + ",0,1,0;");
                for (int r = 0; r < length; r++) {
                    due("change(0, " + r + ") of " + length, x.change(0, r), Math.max(0, r - 1));
                    due("house(0, 1)", x.house(0, 1), r);
                }
                for (int r : new int[] {length, length + 1, 99, -1, LEAST, MOST}) {
                    due("change(0, " + r + ") of " + length, x.change(0, r), BAD);
                    due("house(0, 1)", x.house(0, 1), length - 1);
                }
            }
        }
        for (int r : new int[] {-1, 5, LEAST, MOST}) {
            Due.refused("change(0, " + r + ")", x -> x.change(0, r), BAD);
        }
        for (int r : new int[] {-1, 4, LEAST, MOST}) {
            Due.refused("change(2, " + r + ")", x -> x.change(2, r), BAD);
        }
    }

    /** "what it was": of the same rest, too. */
    static void changeTellsWhatTheRestWas() {
        OwnSunday x = new OwnSunday();
        due("change(0, 6)", x.change(0, 6), 6);
        due("change(0, 0)", x.change(0, 0), 6);
        due("change(0, 0)", x.change(0, 0), 0);
        due("change(0, 7)", x.change(0, 7), BAD);
        due("change(0, 6)", x.change(0, 6), 0);
    }

    /** "HOUSES: such as there are". */
    static void aHouseThatThereIsChanges() {
        for (int i : new int[] {-1, 3, 10, LEAST, MOST}) {
            Due.refused("change(" + i + ", 0)", x -> x.change(i, 0), BAD);
        }
        OwnSunday x = Due.laid("h0,1,1,0;".repeat(10));
        due("change(9, 0)", x.change(9, 0), 1);
        due("change(10, 0)", x.change(10, 0), BAD);
        due("up(0)", x.up(0), 511);
        due("up(1)", x.up(1), 512);
    }

    // ---- wed

    /** "i's day is kept: the rest j had": over both weeks, and the length of i's week is j's from then on. */
    static void weddingsKeepTheFirstOnesDay() {
        OwnSunday x = Due.laid("w2,12;h0,1,1,2;h1,11,2,3;");
        due("wed(0, 1)", x.wed(0, 1), 11);
        due("house(1, 0)", x.house(1, 0), 0);
        due("house(1, 1)", x.house(1, 1), 1);
        due("house(0, 1)", x.house(0, 1), 1);
        due("change(1, 2): of the shorter week", x.change(1, 2), BAD);
        x = Due.laid("w2,12;h0,1,1,2;h1,11,2,3;");
        due("wed(1, 0)", x.wed(1, 0), 1);
        due("house(0, 0)", x.house(0, 0), 1);
        due("house(0, 1)", x.house(0, 1), 11);
        due("house(1, 1)", x.house(1, 1), 11);
        due("house(0, 2)", x.house(0, 2), 1);
        due("house(0, 3)", x.house(0, 3), 2);
        due("change(0, 10): of the longer week", x.change(0, 10), 11);
        due("change(0, 12)", x.change(0, 12), BAD);
        due("count(6)", x.count(6), 12);
        due("wed(1, 0) once more", x.wed(1, 0), 10);
        due("wed(1, 0): alike", x.wed(1, 0), 11);
    }

    /** "BAD": one twice is no wedding. */
    static void weddingsAreOfTwoHousesThatThereAre() {
        for (int i : new int[] {-1, 3, 10, LEAST, MOST}) {
            Due.refused("wed(" + i + ", 0)", x -> x.wed(i, 0), BAD);
            Due.refused("wed(0, " + i + ")", x -> x.wed(0, i), BAD);
            Due.refused("wed(" + i + ", " + i + ")", x -> x.wed(i, i), BAD);
        }
        for (int i = 0; i < 3; i++) {
            int one = i;
            Due.refused("wed(" + i + ", " + i + ")", x -> x.wed(one, one), BAD);
        }
        OwnSunday x = Due.laid("h0,1,1,0;".repeat(9) + "h1,8,1,0;");
        due("wed(9, 0)", x.wed(9, 0), 1);
        due("house(0, 1)", x.house(0, 1), 8);
        due("wed(9, 10)", x.wed(9, 10), BAD);
        due("wed(10, 9)", x.wed(10, 9), BAD);
    }

    // ---- settle

    /** "how many there were": one to three; they are NEW no more. */
    static void oneToThreeSettle() {
        for (int n = 1; n <= 3; n++) {
            OwnSunday x = Due.laid("w3,3;h0,2,0,0;h0,2,0,0;h1,2,0,0;" + "n0;n1;n2;".substring(0, 3 * n));
            int[] want = {x.settled(0), n > 1 ? x.settled(1) : 2, n > 2 ? x.settled(2) : 2};
            due("settle()", x.settle(), n);
            for (int i = 0; i < 3; i++) {
                due("house(" + i + ", 1)", x.house(i, 1), want[i]);
                due("house(" + i + ", 4)", x.house(i, 4), 0);
            }
            due("count(3)", x.count(3), 0);
            due("settle()", x.settle(), NO);
        }
    }

    /** "NO: .. none is NEW", whether or not all goes on. */
    static void noneIsNewAndNoneSettles() {
        Due.changesNothing("settle() in a new object", OwnSunday::new, x -> x.settle(), NO);
        Due.changesNothing("settle()", () -> Due.laid("w2,2;h0,0,1,0;h0,1,1,0;m0,1,1;"), x -> x.settle(), NO);
        Due.changesNothing("settle()", () -> Due.laid("w2,2;h0,0,1,0;h0,0,1,0;m0,1,1;"), x -> x.settle(), NO);
    }

    /** "NO: there is no way". */
    static void thereIsNoWayToSettle() {
        for (String text : new String[] {"h0,3,1,0;n0;m0,1,1;", "w2,2;h0,1,1,0;h0,1,1,0;n1;m0,2,1;",
            "w12,11;h0,1,1,0;h1,1,1,0;n0;n1;m0,1,1;", "h0,1,1,0;h0,2,1,0;h0,3,1,0;n0;n1;n2;m1,1,1;"}) {
            Due.changesNothing("settle() of " + text, () -> Due.laid(text), x -> x.settle(), NO);
        }
    }

    /** What was SEEN and KEPT stays when they settle. */
    static void settlingLeavesAllElse() {
        OwnSunday x = Due.laid("w3,3;h0,0,1,0;h0,0,1,0;n1;m0,1,1;");
        x.seen(0, 0, false);
        x.keep();
        due("settle()", x.settle(), 1);
        due("house(1, 1)", x.house(1, 1), 1);
        due("count(4)", x.count(4), 1);
        due("count(5)", x.count(5), 1);
        due("house(0, 1)", x.house(0, 1), 0);
        due("back()", x.back(), 0);
        due("count(3)", x.count(3), 1);
        due("house(1, 1)", x.house(1, 1), 0);
    }

    // ---- keep, back

    /** "2 at most", "FULL", and nothing changes then. */
    static void keptAre2AtMost() {
        OwnSunday x = new OwnSunday();
        due("keep()", x.keep(), 1);
        due("count(5)", x.count(5), 1);
        due("keep()", x.keep(), 2);
        due("count(5)", x.count(5), 2);
        due("keep()", x.keep(), FULL);
        due("count(5)", x.count(5), 2);
        Due.refused("keep()", y -> y.keep(), FULL);
    }

    /** "As KEPT last (it is KEPT no more then): how many are left". */
    static void backIsToWhatWasKeptLast() {
        OwnSunday x = new OwnSunday();
        x.keep();
        x.change(0, 1);
        x.keep();
        x.change(0, 2);
        due("back()", x.back(), 1);
        due("house(0, 1)", x.house(0, 1), 1);
        due("count(5)", x.count(5), 1);
        x.change(0, 3);
        due("keep(): there is room for one", x.keep(), 2);
        x.change(0, 4);
        due("keep()", x.keep(), FULL);
        due("back()", x.back(), 1);
        due("house(0, 1)", x.house(0, 1), 3);
        due("back()", x.back(), 0);
        due("house(0, 1)", x.house(0, 1), 6);
        due("count(5)", x.count(5), 0);
        due("back()", x.back(), NO);
        due("house(0, 1)", x.house(0, 1), 6);
    }

    /** "NO": nothing is KEPT. */
    static void thereIsNothingToGoBackTo() {
        Due.changesNothing("back() in a new object", OwnSunday::new, x -> x.back(), NO);
        Due.changesNothing("back()", () -> usedUp(Due.lively()), x -> x.back(), NO);
        OwnSunday x = Due.lively();
        due("lay()", x.lay(), 3);
        due("back(): lay has left nothing KEPT", x.back(), NO);
    }

    private static OwnSunday usedUp(OwnSunday x) {
        x.back();
        x.back();
        x.change(0, 0);
        return x;
    }

    /** "KEPT are WEEKS and rests of HOUSES, who is NEW, what was SEEN": and they are not changed while kept. */
    static void weeksRestsNewOnesAndSeenAreKept() {
        OwnSunday x = Due.laid("w4,6;h0,1,1,0;h1,5,1,0;n0;n1;m0,1,1;");
        x.seen(5, 0, true);
        x.seen(2, 0, true);
        String was = Due.stateOf(x);
        x.keep();
        x.wed(1, 0);
        x.change(1, 2);
        due("settle(): both are of a week of 6 now", x.settle(), 2);
        x.forget();
        x.seen(7, 0, false);
        x.seen(8, 0, false);
        x.seen(9, 0, false);
        due("back()", x.back(), 0);
        Due.due("what was kept", Due.stateOf(x), was);
        x.seen(3, 0, true);
        due("count(4): more may be SEEN", x.count(4), 3);
    }

    /** "what was SEEN": the day, the WORK and whether it went on, of what is told in its place in between, too. */
    static void ofWhatWasSeenAllIsKept() {
        // Work 0 goes on by house 0 alone, work 1 by house 1: one that did not tells whose rest it was.
        OwnSunday x = Due.laid("w5,5;h0,0,1,0;h0,0,2,0;n0;n1;m0,1,1;m1,1,1;");
        x.seen(3, 1, false);
        String was = Due.stateOf(x);
        x.keep();
        long[][] others = {{4, 1, 0}, {3, 0, 0}, {3, 1, 1}, {4, 0, 1}};
        for (long[] other : others) {
            x.forget();
            x.seen(other[0], (int) other[1], other[2] == 1);
            due("back()", x.back(), 0);
            Due.due("what was kept", Due.stateOf(x), was);
            due("fits(0, true)", x.fits(0, true), 31);
            due("fits(1, true)", x.fits(1, true), 8);
            due("keep()", x.keep(), 1);
        }
    }

    /** All twenty that were SEEN are kept, and none of them beside what comes in between. */
    static void twentySeenAreKept() {
        OwnSunday x = Due.laid("w12,12;h0,0,1,0;n0;m0,1,1;");
        for (int k = 0; k < 20; k++) {
            x.seen(k < 11 ? k : 0, 0, true);
        }
        due("fits(0, false)", x.fits(0, false), 11);
        x.keep();
        x.forget();
        x.seen(5, 0, false);
        x.keep();
        for (int k = 0; k < 19; k++) {
            x.seen(5, 0, false);
        }
        due("back()", x.back(), 1);
        due("count(4)", x.count(4), 1);
        due("fits(0, false)", x.fits(0, false), 5);
        due("back()", x.back(), 0);
        due("count(4)", x.count(4), 20);
        due("fits(-1, false)", x.fits(-1, false), 1);
        due("fits(0, false)", x.fits(0, false), 11);
        due("seen: full once more", x.seen(0, 0, true), FULL);
    }

    /** The text is not kept. */
    static void theTextIsNotKept() {
        OwnSunday x = new OwnSunday();
        x.write(2, Due.bytes("h0"));
        x.keep();
        x.write(3, Due.bytes(",0;"));
        due("back()", x.back(), 0);
        due("count(2)", x.count(2), 5);
        x.keep();
        x.wipe();
        x.back();
        due("count(2)", x.count(2), 0);
    }

    // ---- count

    private static void countsAre(String of, OwnSunday x, int... want) {
        for (int what = 0; what < 7; what++) {
            due("count(" + what + ") " + of, x.count(what), want[what]);
        }
    }

    /** "0 HOUSES, 1 WORKS, 2 bytes of THE TEXT, 3 NEW ones, 4 SEEN, 5 KEPT, 6 a PERIOD": the least and the most. */
    static void countsOfTheLeastAndTheMost() {
        countsAre("of a new object", new OwnSunday(), 1, 0, 0, 0, 0, 0, 63);
        OwnSunday x = Due.laid("w2,2;h0,0,0,0;");
        x.wipe();
        countsAre("of the least", x, 1, 0, 0, 0, 0, 0, 2);
        String text = "h0,0,0,0;".repeat(10) + "m0,1,1;".repeat(6) + "n7;n8;n9;";
        x = Due.laid(text + "c0;".repeat(84) + "w11,12;");
        for (int k = 0; k < 20; k++) {
            x.seen(k, 5, false);
        }
        x.keep();
        x.keep();
        countsAre("of the most", x, 10, 6, 400, 3, 20, 2, 132);
    }

    /** "BAD". */
    static void countIsAskedFor0To6() {
        for (int what : new int[] {-1, 7, LEAST, MOST}) {
            Due.refused("count(" + what + ")", x -> x.count(what), BAD);
        }
    }

    // ---- all calls

    private static void asksOnly(String what, Due.Call call) {
        Due.changesNothing(what, Due::lively, call, call.on(Due.lively()));
    }

    /** Calls that ask change nothing. */
    static void questionsChangeNothing() {
        asksOnly("house(1, 1)", x -> x.house(1, 1));
        asksOnly("up(9)", x -> x.up(9));
        asksOnly("hands(0, 9)", x -> x.hands(0, 9));
        asksOnly("judge(9, 0)", x -> x.judge(9, 0));
        asksOnly("judge(9, 1)", x -> x.judge(9, 1));
        asksOnly("still(0)", x -> x.still(0));
        asksOnly("together(7, 9)", x -> x.together(7, 9));
        asksOnly("often(3, 9, 99)", x -> x.often(3, 9, 99));
        asksOnly("longest(5)", x -> x.longest(5));
        asksOnly("street(0, 9)", x -> x.street(0, 9));
        asksOnly("same(0)", x -> x.same(0));
        asksOnly("same(1)", x -> x.same(1));
        asksOnly("harvest(0, 9, 99)", x -> x.harvest(0, 9, 99));
        asksOnly("settled(-1)", x -> x.settled(-1));
        asksOnly("settled(-2)", x -> x.settled(-2));
        asksOnly("settled(1)", x -> x.settled(1));
        asksOnly("years(0, 0)", x -> x.years(0, 0));
        asksOnly("years(1, 4)", x -> x.years(1, 4));
        asksOnly("wedding(0, 1, 0)", x -> x.wedding(0, 1, 0));
        asksOnly("wedding(2, 1, 1)", x -> x.wedding(2, 1, 1));
        asksOnly("fits(-1, false)", x -> x.fits(-1, false));
        asksOnly("fits(2, true)", x -> x.fits(2, true));
        asksOnly("fire(5, 99, 9, 0)", x -> x.fire(5, 99, 9, 0));
        asksOnly("fire(5, 99, 9, 1)", x -> x.fire(5, 99, 9, 1));
        asksOnly("fire(5, 99, 9, 2)", x -> x.fire(5, 99, 9, 2));
        asksOnly("count(4)", x -> x.count(4));
    }

    /** One object knows nothing of another. */
    static void objectsAreApart() {
        OwnSunday x = new OwnSunday();
        String was = Due.wholeOf(new OwnSunday());
        Due.lively().settle();
        Due.due("an object beside a lively one", Due.wholeOf(x), was);
    }

    /** "NONE: there is none", said by calls that can find none, is none of the other words. */
    static void theFourWordsAreApart() {
        due("BAD", OwnSunday.BAD, BAD);
        due("NO", OwnSunday.NO, NO);
        due("FULL", OwnSunday.FULL, FULL);
        due("NONE", OwnSunday.NONE, NONE);
    }

    public static void main(String[] args) throws Exception {
        Due.runAll(TownBoundariesTest.class);
    }
}
