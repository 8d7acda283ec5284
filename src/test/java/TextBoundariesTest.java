/** The boundaries that the document names of texts, faults and houses: promises 1 to 6, a test for each sentence. */
public final class TextBoundariesTest {
    private static final int BAD = Due.BAD, NO = Due.NO, FULL = Due.FULL, NONE = Due.NONE;
    private static final String HOUSE = "h0,0,0,0;";
    private static final String WORK = "m0,1,1;";
    /** An item of each kind, as it may stand behind two houses. */
    private static final String[] ITEMS = {"w7,9;", HOUSE, "n1;", WORK, "c1;"};

    private static void due(String what, long got, long want) {
        Due.due(what, got, want);
    }

    /** The item stands behind two houses, at place 18. */
    private static void good(String item) {
        Due.fault(HOUSE + HOUSE + item, NONE);
    }

    private static void bad(String item) {
        Due.fault(HOUSE + HOUSE + item, 18);
    }

    private static void goodIf(boolean isGood, String item) {
        Due.fault(HOUSE + HOUSE + item, isGood ? NONE : 18);
    }

    // ---- A new object

    /** "As told", "at first h0,6,1,0;", "7, 9 without", "0 without". */
    static void aNewObjectIsTheTownToldAtFirst() {
        Due.due("a new object", Due.stateOf(new OwnSunday()), Due.stateOf(atFirst()));
        due("house(0, 0)", new OwnSunday().house(0, 0), 0);
        due("house(0, 1)", new OwnSunday().house(0, 1), 6);
        due("house(0, 2)", new OwnSunday().house(0, 2), 1);
        due("house(0, 3)", new OwnSunday().house(0, 3), 0);
        due("house(0, 4)", new OwnSunday().house(0, 4), 0);
        due("house(1, 0): there is but one", new OwnSunday().house(1, 0), BAD);
    }

    private static OwnSunday atFirst() {
        OwnSunday x = Due.laid("h0,6,1,0;");
        x.wipe();
        return x;
    }

    /** "THE TEXT is empty". */
    static void aNewObjectsTextIsEmpty() {
        OwnSunday x = new OwnSunday();
        due("count(2)", x.count(2), 0);
        due("fault()", x.fault(), NONE);
        due("lay(): though a town stands, no text tells it", x.lay(), NO);
        due("wipe()", x.wipe(), 0);
        due("write(1)", x.write(1, 'h'), 1);
    }

    static void anObjectAnswersItsLastCall() {
        OwnSunday x = new OwnSunday();
        for (int k = 1; k < 512; k++) {
            x.write(1, 'h');
        }
        due("count(2), the 512th call", x.count(2), 400);
    }

    // ---- write

    /** "The lowest n bytes (1 to 8) of v, the highest of these first": the others of v are left out. */
    static void writeTakesOneToEightBytes() {
        String item = "h1,8,17,3;w2,11;w11,9;";
        long[] others = {0, -1, 0x7878787878787878L, 0x3b3b3b3b3b3b3b3bL};
        for (int n = 1; n <= 8; n++) {
            for (long v : others) {
                OwnSunday x = new OwnSunday();
                int at = 0;
                while (at + n <= item.length()) {
                    long shifted = n == 8 ? 0 : v << (8 * n);
                    due("write(" + n + ", ..)", x.write(n, shifted | Due.bytes(item.substring(at, at + n))), at + n);
                    at += n;
                }
                Due.write(x, item.substring(at));
                due("lay()", x.lay(), 1);
                due("house(0, 0)", x.house(0, 0), 1);
                due("house(0, 1)", x.house(0, 1), 8);
                due("house(0, 2)", x.house(0, 2), 17);
                due("house(0, 3)", x.house(0, 3), 3);
                due("count(6)", x.count(6), 99);
            }
        }
    }

    /** "1 to 8", "BAD". */
    static void writeRefusesOtherNumbersOfBytes() {
        for (int n : new int[] {0, 9, -1, -8, 16, 400, Integer.MIN_VALUE, Integer.MAX_VALUE}) {
            Due.refused("write(" + n + ", 'h')", x -> x.write(n, 'h'), BAD);
        }
    }

    /** "400 at most", "FULL": what does not fit is not written in part. */
    static void aTextIsOf400BytesAtMost() {
        for (int n = 1; n <= 8; n++) {
            int bytes = n;
            OwnSunday fits = ofLength(400 - n);
            due("write(" + n + ") behind " + (400 - n), fits.write(n, ';'), 400);
            for (int over = 1; over <= n; over++) {
                int length = 400 - n + over;
                Due.changesNothing("write(" + n + ") behind " + length, () -> ofLength(length),
                    x -> x.write(bytes, Due.bytes("c1;c1;c1")), FULL);
            }
        }
    }

    /** So many bytes, without a fault if they are 12 and more. */
    private static OwnSunday ofLength(int length) {
        String end = length % 3 == 0 ? "" : length % 3 == 1 ? "c00;" : "w7,9;";
        StringBuilder text = new StringBuilder(HOUSE);
        while (text.length() + end.length() < length) {
            text.append("c0;");
        }
        return Due.written(text + end);
    }

    /** "BAD .. FULL. Of several the first in this order". */
    static void writeIsBadAheadOfFull() {
        for (int n : new int[] {0, 9, -1}) {
            Due.changesNothing("write(" + n + ") behind 400", () -> ofLength(400), x -> x.write(n, 0), BAD);
            Due.changesNothing("write(" + n + ") behind 399", () -> ofLength(399), x -> x.write(n, 0), BAD);
        }
    }

    /** "A TEXT is bytes": all of them, of which no more than these are in an item. */
    static void anyByteIsWritten() {
        for (int b = 0; b < 256; b++) {
            OwnSunday x = new OwnSunday();
            due("write(1, " + b + ")", x.write(1, b), 1);
            due("fault() of byte " + b, x.fault(), 0);
            due("wipe()", x.wipe(), 1);
        }
    }

    // ---- wipe

    /** "THE TEXT is empty: how long it was": of an empty, a short, a full one. */
    static void wipeTellsHowLongTheTextWas() {
        for (int length : new int[] {12, 399, 400}) {
            OwnSunday x = ofLength(length);
            due("wipe()", x.wipe(), length);
            due("count(2)", x.count(2), 0);
            due("fault()", x.fault(), NONE);
            due("wipe() once more", x.wipe(), 0);
            due("lay()", x.lay(), NO);
            due("write(8)", x.write(8, Due.bytes("h0,3,0,0")), 8);
            due("fault(): nothing of the old text is behind it", x.fault(), 0);
            x.write(1, ';');
            due("lay()", x.lay(), 1);
            due("house(0, 1)", x.house(0, 1), 3);
        }
    }

    static void wipeLeavesTheTown() {
        OwnSunday x = Due.lively();
        x.wipe();
        OwnSunday y = Due.lively();
        for (int i = 0; i < 3; i++) {
            for (int what = 0; what < 5; what++) {
                due("house(" + i + ", " + what + ")", x.house(i, what), y.house(i, what));
            }
        }
        due("count(4)", x.count(4), 2);
        due("count(5)", x.count(5), 2);
        due("count(6)", x.count(6), 20);
    }

    // ---- the form of items

    /** "each a letter": no other byte than these five, each with its own count of numbers. */
    static void anItemBeginsWithOneOfFiveLetters() {
        String[] numbers = {"", "2", "2,2", "1,1,1", "1,1,1,1", "1,1,1,1,1"};
        for (int b = 0; b < 256; b++) {
            for (int count = 0; count < numbers.length; count++) {
                int wanted = b == 'w' ? 2 : b == 'h' ? 4 : b == 'n' || b == 'c' ? 1 : b == 'm' ? 3 : -1;
                String item = (char) b + numbers[count] + ";";
                Due.fault(HOUSE + HOUSE + HOUSE + item, count == wanted ? NONE : 27);
            }
        }
    }

    /** "numbers (one or two figures)": not none, not three. */
    static void aNumberIsOfOneOrTwoFigures() {
        String[] one = {"w2,2;", "h1,1,1,1;", "n1;", "m1,1,1;", "c1;"};
        for (String item : one) {
            good(item);
            for (int at = 1; at < item.length(); at += 2) {
                String head = item.substring(0, at);
                String figure = item.substring(at, at + 1);
                String tail = item.substring(at + 1);
                good(head + "0" + figure + tail);
                bad(head + tail);
                bad(head + "00" + figure + tail);
                bad(head + figure + "00" + tail);
                bad(head + " " + figure + tail);
                bad(head + "-" + figure + tail);
                bad(head + "+" + figure + tail);
                bad(head + figure + " " + tail);
            }
        }
    }

    /** The bytes next to the figures, and all others, are no figures. */
    static void aFigureIsFrom0To9() {
        for (int b = 0; b < 256; b++) {
            boolean figure = b >= '0' && b <= '9';
            goodIf(b == '0' || b == '1', "c" + (char) b + ";");
            // A ; there ends the item, and the one behind it is a fault by itself.
            Due.fault(HOUSE + HOUSE + "c0" + (char) b + ";", b == '0' || b == '1' ? NONE : b == ';' ? 21 : 18);
            goodIf(b == '0', "c" + (char) b + "1;");
            goodIf(figure && b >= '2', "w" + (char) b + ",7;");
            goodIf(figure && b >= '2', "w7,0" + (char) b + ";");
        }
    }

    /** "parted by , and ; (behind the last one, too)". */
    static void numbersArePartedByACommaAndEndBySemicolon() {
        for (String item : ITEMS) {
            int last = item.length() - 1;
            for (int at = 2; at <= last; at += 2) {
                char mark = at == last ? ';' : ',';
                for (int b = 0; b < 256; b++) {
                    goodIf(b == mark, item.substring(0, at) + (char) b + item.substring(at + 1));
                }
                bad(item.substring(0, at) + item.substring(at + 1));
                bad(item.substring(0, at) + "," + item.substring(at));
            }
            Due.fault(HOUSE + HOUSE + item + ";", 18 + item.length());
        }
    }

    /** "(behind the last one, too)": a text that ends within an item, wherever. */
    static void anItemThatIsCutIsAFault() {
        for (String item : ITEMS) {
            for (int length = 1; length < item.length(); length++) {
                bad(item.substring(0, length));
            }
            good(item);
        }
        bad(";");
        bad(",");
        bad("0");
        bad(" ");
        bad("\n");
    }

    /** What stands behind the end of the text, left by a longer one, is no part of it. */
    static void whatAWipedTextHeldIsNotRead() {
        OwnSunday x = Due.written("h0,1,0,0;c0;");
        x.wipe();
        x.write(8, Due.bytes("h0,1,0,0"));
        due("fault(): the ; was the old text's", x.fault(), 0);
        x.write(1, ';');
        due("fault()", x.fault(), NONE);
        x.write(1, 'c');
        due("fault(): the 0; was the old text's", x.fault(), 9);
    }

    // ---- weeks

    /** "(2 to 12 each". */
    static void weeksAreOf2To12Days() {
        for (int days = 0; days <= 99; days++) {
            boolean taken = days >= 2 && days <= 12;
            goodIf(taken, "w" + days + ",7;");
            goodIf(taken, "w7," + days + ";");
            Due.fault("w" + days + "," + days + ";", taken ? NONE : 0);
        }
    }

    /** "0 is A days long, 1 is B": the least and the longest of each. */
    static void week0IsTheFirstAndWeek1TheSecond() {
        OwnSunday x = Due.laid("w2,12;h0,1,1,0;h1,11,1,0;");
        due("up(11)", x.up(11), 0);
        due("up(1)", x.up(1), 2);
        due("change(0, 2)", x.change(0, 2), BAD);
        due("change(1, 11)", x.change(1, 11), 11);
        x = Due.laid("w12,2;h0,11,1,0;h1,1,1,0;");
        due("up(11)", x.up(11), 0);
        due("up(1)", x.up(1), 1);
        due("change(0, 11)", x.change(0, 11), 11);
        due("change(1, 2)", x.change(1, 2), BAD);
    }

    /** "7, 9 without". */
    static void weeksAre7And9Without() {
        OwnSunday x = Due.laid("h0,6,0,0;h1,8,0,0;");
        due("count(6)", x.count(6), 63);
        due("up(6)", x.up(6), 2);
        due("up(8)", x.up(8), 1);
        Due.fault("h0,7,0,0;", 0);
        Due.fault("h1,9,0,0;", 0);
        x = Due.laid("w2,3;h0,0,0,0;");
        x.wipe();
        Due.write(x, HOUSE);
        x.lay();
        due("count(6): the weeks of the town ahead are gone", x.count(6), 63);
    }

    /** "of several such the last one counts". */
    static void ofSeveralWeeksTheLastCounts() {
        OwnSunday x = Due.laid("w2,3;w4,5;h0,3,0,0;w5,11;h1,10,0,0;w6,12;");
        due("count(6)", x.count(6), 12);
        due("change(0, 5)", x.change(0, 5), 3);
        due("change(0, 6)", x.change(0, 6), BAD);
        due("change(1, 11)", x.change(1, 11), 10);
        due("count(6) of like ones", Due.laid("w2,3;w3,2;w3,3;" + HOUSE).count(6), 3);
    }

    // ---- houses

    /** "WEEK K (0, 1)". */
    static void aHousesWeekIs0Or1() {
        for (int k = 0; k <= 99; k++) {
            goodIf(k <= 1, "h" + k + ",0,0,0;");
        }
        due("house(0, 0)", Due.laid("h1,0,0,0;").house(0, 0), 1);
    }

    /** "rests on day R of it (0 to its length less 1": for each length and both weeks. */
    static void aHouseRestsOnADayOfItsWeek() {
        for (int length = 2; length <= 12; length++) {
            for (int r = 0; r <= 99; r++) {
                int want = r < length ? NONE : 0;
                Due.fault("h0," + r + ",0,0;w" + length + ",12;", want);
                Due.fault("h1," + r + ",0,0;w12," + length + ";", want);
            }
            due("house(0, 1)", Due.laid("h0," + (length - 1) + ",0,0;w" + length + ",2;").house(0, 1), length - 1);
        }
    }

    /** "as told in the end": by weeks that are told behind the house, and not by those ahead. */
    static void restsAreJudgedByTheWeeksInTheEnd() {
        Due.fault("w2,2;h0,11,0,0;w12,2;", NONE);
        Due.fault("w12,12;h0,11,0,0;w11,12;", 7);
        Due.fault("w12,12;h0,2,0,0;w12,2;", NONE);
        Due.fault("w12,12;h1,2,0,0;w12,2;", 7);
        Due.fault("h0,7,0,0;w7,9;w8,9;", NONE);
        Due.fault("h0,7,0,0;w8,9;w7,9;", 0);
    }

    /** "has SKILLS S (bits, 0 to 31)". */
    static void skillsAreFrom0To31() {
        for (int s = 0; s <= 99; s++) {
            goodIf(s <= 31, "h0,0," + s + ",0;");
        }
        for (int s = 0; s <= 31; s++) {
            OwnSunday x = Due.laid("h0,0," + s + ",0;");
            due("house(0, 2)", x.house(0, 2), s);
            for (int skill = 0; skill < 5; skill++) {
                due("hands(" + skill + ", 1) of " + s, x.hands(skill, 1), s >> skill & 1);
            }
        }
    }

    /** "is of STREET T (0 to 3)". */
    static void streetsAreFrom0To3() {
        for (int t = 0; t <= 99; t++) {
            goodIf(t <= 3, "h0,0,0," + t + ";");
        }
        for (int t = 0; t <= 3; t++) {
            due("house(0, 3)", Due.laid("h0,0,0," + t + ";").house(0, 3), t);
        }
    }

    /** "10 at most, 0, 1, ..". */
    static void housesAre10AtMost() {
        StringBuilder text = new StringBuilder();
        for (int n = 1; n <= 10; n++) {
            text.append("h1,").append(n % 9).append(",").append(n).append(",").append(n % 4).append(";");
            OwnSunday x = Due.written(text.toString());
            due("fault() of " + n, x.fault(), NONE);
            due("lay() of " + n, x.lay(), n);
            due("count(0)", x.count(0), n);
            due("house(" + (n - 1) + ", 1)", x.house(n - 1, 1), n % 9);
            due("house(" + (n - 1) + ", 2)", x.house(n - 1, 2), n);
            due("house(" + (n - 1) + ", 3)", x.house(n - 1, 3), n % 4);
            due("house(0, 1): told first", x.house(0, 1), 1);
            due("house(" + n + ", 1)", x.house(n, 1), BAD);
        }
        Due.fault(text + HOUSE, text.length());
        Due.fault(text + "w9,9;" + HOUSE + HOUSE, text.length() + 5);
    }

    // ---- new ones

    /** "HOUSE I (told ahead) is NEW". */
    static void aNewOneIsToldAhead() {
        for (int i = 0; i <= 99; i++) {
            goodIf(i <= 1, "n" + i + ";");
        }
        Due.fault("n0;" + HOUSE, 0);
        Due.fault(HOUSE + "n1;" + HOUSE, 9);
        Due.fault(HOUSE + HOUSE + "n1;", NONE);
        String ten = HOUSE.repeat(10);
        Due.fault(ten + "n9;", NONE);
        Due.fault(ten + "n10;", 90);
        OwnSunday x = Due.laid(ten + "n9;");
        due("house(9, 4)", x.house(9, 4), 1);
        due("house(8, 4)", x.house(8, 4), 0);
        due("house(0, 4)", x.house(0, 4), 0);
    }

    /** "3 at most". */
    static void newOnesAre3AtMost() {
        String ten = HOUSE.repeat(10);
        int[][] rows = {{0, 1, 2, 3}, {6, 7, 8, 9}, {0, 4, 5, 9}};
        for (int[] row : rows) {
            String three = ten + "n" + row[0] + ";n" + row[1] + ";n" + row[2] + ";";
            Due.fault(three, NONE);
            due("count(3)", Due.laid(three).count(3), 3);
            Due.fault(three + "n" + row[3] + ";", 99);
        }
        for (int n = 0; n <= 3; n++) {
            due("count(3)", Due.laid(ten + "n1;n4;n7;".substring(0, 3 * n)).count(3), n);
        }
    }

    /** "I rising": not the same, not one below; whatever stands between. */
    static void newOnesRise() {
        String ten = HOUSE.repeat(10);
        for (int i = 0; i < 10; i++) {
            for (int j = 0; j < 10; j++) {
                Due.fault(ten + "n" + i + ";n" + j + ";", j > i ? NONE : 93);
                Due.fault(ten + "n" + i + ";c0;n" + j + ";", j > i ? NONE : 96);
            }
        }
        Due.fault(ten + "n1;n5;n3;", 96);
    }

    // ---- works

    /** "SKILL S (0 to 4)". */
    static void aWorksSkillIsFrom0To4() {
        for (int s = 0; s <= 99; s++) {
            goodIf(s <= 4, "m" + s + ",1,1;");
        }
    }

    /** "N (1 to 9)". */
    static void aWorkNeeds1To9() {
        for (int n = 0; n <= 99; n++) {
            goodIf(n >= 1 && n <= 9, "m0," + n + ",1;");
        }
    }

    /** "for D days (1 to 9) on end". */
    static void aWorkStandsStillAfter1To9Days() {
        for (int d = 0; d <= 99; d++) {
            goodIf(d >= 1 && d <= 9, "m0,1," + d + ";");
        }
    }

    /** "6 at most, 0, 1, ..". */
    static void worksAre6AtMost() {
        StringBuilder text = new StringBuilder("h0,0,1,0;h0,0,3,0;");
        for (int n = 1; n <= 6; n++) {
            text.append("m").append(n % 2).append(",").append(n % 2 + 1).append(",1;");
            OwnSunday x = Due.laid(text.toString());
            due("count(1)", x.count(1), n);
            // Two hands of skill 1 there never are; one of skill 0 there is but on day 0 of 7.
            due("still(" + (n - 1) + ")", x.still(n - 1), n % 2 == 1 ? 63 : 9);
            due("still(" + n + ")", x.still(n), BAD);
        }
        Due.fault(text + WORK, text.length());
        Due.fault(text + "c1;" + WORK + WORK, text.length() + 3);
    }

    /** A work may be told ahead of houses, and of a skill that none has. */
    static void worksNeedNoHouseAhead() {
        Due.fault(WORK + HOUSE, NONE);
        due("still(0)", Due.laid(WORK + HOUSE).still(0), 63);
    }

    // ---- the cook

    /** "HOUSE I (told ahead". */
    static void theCookIsToldAhead() {
        for (int i = 0; i <= 99; i++) {
            goodIf(i <= 1, "c" + i + ";");
        }
        Due.fault("c0;" + HOUSE, 0);
        Due.fault(HOUSE + "c1;" + HOUSE, 9);
        Due.fault(HOUSE.repeat(10) + "c9;", NONE);
        Due.fault(HOUSE.repeat(10) + "c10;", 90);
    }

    /** "0 without; of several such the last one counts". */
    static void theCookIsHouse0WithoutAndTheLastToldElse() {
        String ten = "h1,0,0,0;h1,1,0,0;h1,2,0,0;h1,3,0,0;h1,4,0,0;h1,5,0,0;h1,6,0,0;h1,7,0,0;h1,8,0,0;h0,0,0,0;w10,9;";
        cookRestsOn(ten, 0);
        for (int i = 0; i < 9; i++) {
            cookRestsOn(ten + "c" + i + ";", i);
            cookRestsOn(ten + "c" + (8 - i) + ";c9;c" + i + ";", i);
        }
        cookRestsOn(ten + "c5;c0;", 0);
        OwnSunday x = Due.laid(ten + "c9;");
        due("fire(0, 1, 10, 0)", x.fire(0, 1, 10, 0), 1);
        due("fire(0, 1, 9, 0)", x.fire(0, 1, 9, 0), 0);
        x.wipe();
        Due.write(x, ten);
        x.lay();
        due("fire(0, 1, 10, 0): the cook of the town ahead is gone", x.fire(0, 1, 10, 0), 0);
        due("fire(0, 1, 9, 0)", x.fire(0, 1, 9, 0), 1);
    }

    private static void cookRestsOn(String text, int day) {
        OwnSunday x = Due.laid(text);
        for (int d = 0; d < 9; d++) {
            due("fire(0, 1, " + d + ", 0) of " + text, x.fire(0, 1, d, 0), d == day ? 1 : 0);
        }
    }

    // ---- fault

    /** "the place (from 0 on) of the first byte of the first ITEM that is not so". */
    static void theFaultIsOfTheFirstItemThatIsNotSo() {
        Due.fault("x;y;", 0);
        Due.fault("w7,9;x;y;", 5);
        Due.fault("w7,9;w13,9;w14,9;", 5);
        Due.fault(HOUSE + "n1;c1;", 9);
        Due.fault(HOUSE + "c1;n1;", 9);
        Due.fault(HOUSE + "h0,0,0,4;h0,0,32,0;", 9);
        Due.fault(HOUSE + "m0,1,1;m0,1,", 16);
    }

    /** Each kind of fault is one of its own ITEM: a wrong rest ahead of it and a fault behind it are no matter. */
    static void eachFaultIsOfItsOwnItem() {
        String[] faults = {"w1,7;", "w13,7;", "w7,1;", "w7,13;", "w7;", "h2,0,0,0;", "h99,0,0,0;", "h0,0,32,0;",
            "h0,0,0,4;", "h0,0,0;", "n1;", "n0,0;", "m5,1,1;", "m0,0,1;", "m0,10,1;", "m0,1,0;", "m0,1,10;", "m0,1;",
            "c1;", "c;", "x0;", ";", "w7,9", "h0,0,0,0", "m0,1,1", "n0", "c0"};
        for (String fault : faults) {
            Due.fault("h0,7,0,0;" + fault + "x", 9);
            Due.fault(HOUSE + fault + "w1,1;", 9);
            Due.fault("w7,9;h0,12,0,0;c0;" + fault, 18);
        }
        Due.fault("h0,7,0,0;n0;n0;x", 12);
        Due.fault("h0,7,0,0;" + HOUSE.repeat(3) + "n0;n1;n2;n3;x", 45);
        Due.fault("h0,7,0,0;" + WORK.repeat(7) + "x", 51);
    }

    /** The last place a text has: 399. */
    static void theFaultMayBeOfTheLastByte() {
        String most = HOUSE + "c0;".repeat(130);
        Due.fault(most + "h", 399);
        Due.fault(most + ";", 399);
        Due.fault(most + "c", 399);
        Due.fault(most, NONE);
        Due.fault(HOUSE + "c0;".repeat(129) + "c00;", NONE);
        Due.fault(HOUSE + "c0;".repeat(129) + "c00,", 396);
        Due.fault(HOUSE + "c0;".repeat(129) + "c000", 396);
        Due.fault(HOUSE + "c0;".repeat(129) + "c0;c", 399);
    }

    /** "if there is none, of the first h whose R is not of its WEEK". */
    static void wrongRestsAreFaultsBehindAllOthers() {
        Due.fault("h0,7,0,0;x", 9);
        Due.fault("h0,7,0,0;h0,9,0,0;c2;", 18);
        Due.fault("h0,7,0,0;w1,9;", 9);
        Due.fault("h0,7,0,0;h0,8,0,0;", 0);
        Due.fault("h0,6,0,0;h1,8,0,0;h0,7,0,0;h1,9,0,0;", 18);
        Due.fault("h0,6,0,0;h1,8,0,0;h1,9,0,0;h0,7,0,0;", 18);
        Due.fault("w7,9;m0,1,1;h0,99,0,0;", 12);
        Due.fault("h0,99,0,0;h0,0,0,0;c2;", 19);
        String nine = HOUSE.repeat(9);
        Due.fault(nine + "h0,7,0,0;", 81);
        Due.fault(nine + "h0,7,0,0;" + HOUSE, 90);
        Due.fault("h0,7,0,0;" + nine + HOUSE, 90);
    }

    /** "FAULT. NONE." of an empty text. */
    static void anEmptyTextHasNoFault() {
        Due.fault("", NONE);
    }

    /** It is asked for and nothing else: neither the town nor the text change. */
    static void faultChangesNothing() {
        Due.changesNothing("fault()", Due::lively, x -> x.fault(), NONE);
        Due.changesNothing("fault()", () -> Due.written("w2,2;h0,1,1,0;q"), x -> x.fault(), 14);
    }

    // ---- lay

    /** "LAID is a TEXT without FAULT, of a HOUSE at least (NO else". */
    static void aTextWithFaultOrWithoutHouseIsNotLaid() {
        for (String text : new String[] {"", "w2,3;", "m0,1,1;", "w2,3;m0,1,1;w4,5;", "x", "h0,0,0,0", "h0,7,0,0;",
            "w2,2;h0,1,3,2;n0;c0;m0,1,1;x", "w2,2;h0,2,3,2;n0;c0;m0,1,1;"}) {
            Due.changesNothing("lay() of " + text, () -> livelyWith(text), x -> x.lay(), NO);
        }
        due("lay() of the least text", Due.written(HOUSE).lay(), 1);
    }

    private static OwnSunday livelyWith(String text) {
        OwnSunday x = Due.lively();
        x.wipe();
        Due.write(x, text);
        return x;
    }

    /** "nothing SEEN, KEPT; THE TEXT stays". */
    static void whatIsLaidIsNewAltogether() {
        String text = "w3,4;h0,2,16,3;h1,3,8,2;n1;m4,1,1;c1;";
        OwnSunday x = livelyWith(text);
        due("lay()", x.lay(), 2);
        due("count(2)", x.count(2), text.length());
        due("count(3)", x.count(3), 1);
        due("count(4)", x.count(4), 0);
        due("count(5)", x.count(5), 0);
        due("back()", x.back(), NO);
        due("forget()", x.forget(), 0);
        Due.due("all of it", Due.wholeOf(x), Due.wholeOf(Due.laid(text)));
    }

    /** Laid once more, a town is as told once more: rests, weeks, who is NEW. */
    static void layBringsBackWhatTheTextTells() {
        String text = "w3,4;h0,2,1,0;h1,3,1,0;n1;m0,1,1;";
        OwnSunday x = Due.laid(text);
        x.change(0, 1);
        x.settle();
        x.wed(0, 1);
        x.seen(1, 0, true);
        x.keep();
        x.keep();
        due("lay()", x.lay(), 2);
        Due.due("all of it", Due.wholeOf(x), Due.wholeOf(Due.laid(text)));
    }

    /** A town of ten behind which one of one is laid, and the other way round. */
    static void aSmallTownIsLaidOverALargeOne() {
        String large = "w12,11;" + "h1,10,31,3;".repeat(10) + "n0;n4;n9;" + "m0,9,9;".repeat(6) + "c9;";
        OwnSunday x = Due.laid(large);
        due("count(0)", x.count(0), 10);
        x.wipe();
        Due.write(x, "h0,6,1,0;");
        x.lay();
        due("house(1, 0)", x.house(1, 0), BAD);
        due("up(0)", x.up(0), 1);
        due("street(3, 0)", x.street(3, 0), NONE);
        due("hands(1, 0)", x.hands(1, 0), 0);
        Due.due("all of it", Due.wholeOf(x), Due.wholeOf(Due.laid("h0,6,1,0;")));
        x = Due.laid("h0,6,1,0;");
        x.wipe();
        Due.write(x, large);
        due("lay()", x.lay(), 10);
        Due.due("all of it", Due.wholeOf(x), Due.wholeOf(Due.laid(large)));
    }

    // ---- house

    /** "WEEK (what = 0), rest (1), SKILLS (2), STREET (3), 1 if it is NEW (4). BAD." */
    static void houseIsAskedFor0To4() {
        OwnSunday x = Due.laid("w12,11;h0,11,31,3;h1,10,30,1;n1;");
        int[][] want = {{0, 11, 31, 3, 0}, {1, 10, 30, 1, 1}};
        for (int i = 0; i < 2; i++) {
            for (int what = 0; what < 5; what++) {
                due("house(" + i + ", " + what + ")", x.house(i, what), want[i][what]);
            }
        }
        for (int what : new int[] {-1, 5, Integer.MIN_VALUE, Integer.MAX_VALUE}) {
            Due.refused("house(0, " + what + ")", y -> y.house(0, what), BAD);
        }
    }

    /** "HOUSES, WORKS: such as there are". */
    static void houseIsOneThatThereIs() {
        for (int n = 1; n <= 10; n++) {
            OwnSunday x = Due.laid(HOUSE.repeat(n));
            for (int i = 0; i < 12; i++) {
                due("house(" + i + ", 0) of " + n, x.house(i, 0), i < n ? 0 : BAD);
            }
            due("house(-1, 0)", x.house(-1, 0), BAD);
        }
        for (int i : new int[] {-1, 3, 10, Integer.MIN_VALUE, Integer.MAX_VALUE}) {
            Due.refused("house(" + i + ", 0)", x -> x.house(i, 0), BAD);
            Due.refused("house(" + i + ", 5)", x -> x.house(i, 5), BAD);
        }
    }

    public static void main(String[] args) throws Exception {
        Due.runAll(TextBoundariesTest.class);
    }
}
