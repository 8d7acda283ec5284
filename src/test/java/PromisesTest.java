import java.nio.charset.StandardCharsets;

/** A method for each promise of the document: ordinary inputs, the edges that it names, wrong inputs. */
public final class PromisesTest {
    private static final int BAD = -1, NO = -2, FULL = -3, NONE = -4;
    private static final long LAST = 1000000000000000L, TRILLION = 1000000000000L;
    private static int wrong = 0;
    private static int promise = 0;
    private static int asked = 0;

    private static void due(String what, long got, long want) {
        asked++;
        if (got != want) {
            wrong++;
            System.out.println("promise " + promise + ": " + what + " answered " + got + ", due is " + want);
        }
    }

    private static void put(OwnSunday x, String text) {
        for (byte b : text.getBytes(StandardCharsets.ISO_8859_1)) {
            x.write(1, b);
        }
    }

    /** A new object in which the text is laid. */
    private static OwnSunday laid(String text) {
        OwnSunday x = new OwnSunday();
        for (int at = 0; at < text.length(); at += 8) {
            int n = Math.min(8, text.length() - at);
            long v = 0;
            for (int k = 0; k < n; k++) {
                v = v << 8 | text.charAt(at + k);
            }
            x.write(n, v);
        }
        if (x.lay() < 1) {
            throw new IllegalStateException("not laid: " + text);
        }
        return x;
    }

    private static void faultOf(String text, int want) {
        OwnSunday x = new OwnSunday();
        put(x, text);
        due("fault() of " + text, x.fault(), want);
        boolean canBeLaid = want == NONE && text.contains("h");
        due("lay() of " + text, x.lay() > 0 ? 1 : 0, canBeLaid ? 1 : 0);
    }

    private static void p1New() {
        OwnSunday x = new OwnSunday();
        int[] counts = {1, 0, 0, 0, 0, 0, 63};
        for (int what = 0; what < 7; what++) {
            due("count(" + what + ")", x.count(what), counts[what]);
        }
        int[] first = {0, 6, 1, 0, 0};
        for (int what = 0; what < 5; what++) {
            due("house(0, " + what + ")", x.house(0, what), first[what]);
        }
        due("fire(0, 1, 6, 0): the cook is house 0", x.fire(0, 1, 6, 0), 1);
        due("wipe()", x.wipe(), 0);
        x.change(0, 1);
        due("another object is not touched", new OwnSunday().house(0, 1), 6);
        due("BAD", OwnSunday.BAD, -1);
        due("NO", OwnSunday.NO, -2);
        due("FULL", OwnSunday.FULL, -3);
        due("NONE", OwnSunday.NONE, -4);
    }

    private static void p2Write() {
        OwnSunday x = new OwnSunday();
        // "h0,1,2,3" and ";" by the lowest bytes, the rest of the number being left out.
        due("write(8)", x.write(8, 0x68302c312c322c33L), 8);
        due("write(1)", x.write(1, 0x7fffffffffffff3bL), 9);
        due("lay()", x.lay(), 1);
        due("house(0, 1)", x.house(0, 1), 1);
        due("house(0, 2)", x.house(0, 2), 2);
        due("house(0, 3)", x.house(0, 3), 3);
        due("write(0)", x.write(0, 1), BAD);
        due("write(9)", x.write(9, 1), BAD);
        due("write(-1)", x.write(-1, 1), BAD);
        due("count(2)", x.count(2), 9);
        for (int k = 0; k < 48; k++) {
            x.write(8, -1);
        }
        due("count(2)", x.count(2), 393);
        due("write(8): 401", x.write(8, 0), FULL);
        due("write(9): BAD ahead of FULL", x.write(9, 0), BAD);
        due("write(7): 400", x.write(7, 0), 400);
        due("write(1): 401", x.write(1, 0), FULL);
        due("write(0)", x.write(0, 0), BAD);
        due("count(2)", x.count(2), 400);
        due("fault(): a byte 255 is no letter", x.fault(), 9);
    }

    private static void p3Wipe() {
        OwnSunday x = laid("h1,3,7,2;");
        due("wipe()", x.wipe(), 9);
        due("wipe()", x.wipe(), 0);
        due("fault()", x.fault(), NONE);
        due("house(0, 1): the town stays", x.house(0, 1), 3);
        due("lay()", x.lay(), NO);
        due("house(0, 1)", x.house(0, 1), 3);
    }

    private static void p4FaultOfForm() {
        faultOf("", NONE);
        faultOf("w2,12;", NONE);
        faultOf("w12,2;h0,11,31,3;", NONE);
        faultOf("w07,09;h00,06,01,00;", NONE);
        faultOf("w007,9;", 0);
        faultOf("h0,0,0,0;h0,0,0;", 9);
        faultOf("h0,0,0,0;h0,0,0,0,0;", 9);
        faultOf("h0,0,0,0", 0);
        faultOf("h0,0,0,0;c", 9);
        faultOf("h0,0,0,0;c0", 9);
        faultOf("h0,0,0,0;;", 9);
        faultOf("h0,0,0,0; ", 9);
        faultOf("h0,0,0,0;c0,", 9);
        faultOf("h0,0,0,0;c;", 9);
        faultOf("h0,,0,0;", 0);
        faultOf("h0;0;0;0;", 0);
        faultOf("h-1,0,0,0;", 0);
        faultOf("H0,0,0,0;", 0);
        faultOf("h0,0,0,0;h0,0,0,0x", 9);
        faultOf("h0,0,0,0;x1;w1,1;", 9);
        faultOf("h0,0,0,0;w2;", 9);
        faultOf("h0,0,0,0;" + (char) 0xe8 + "0,0,0,0;", 9);
        faultOf("5h0,0,0,0;", 0);
    }

    private static void p4FaultOfNumbers() {
        faultOf("w1,7;", 0);
        faultOf("w7,1;", 0);
        faultOf("w13,7;", 0);
        faultOf("w7,13;", 0);
        faultOf("h2,0,0,0;", 0);
        faultOf("h0,0,32,0;", 0);
        faultOf("h0,0,31,4;", 0);
        faultOf("n0;h0,0,0,0;", 0);
        faultOf("h0,0,0,0;n1;", 9);
        faultOf("h0,0,0,0;h0,0,0,0;n1;n0;", 21);
        faultOf("h0,0,0,0;h0,0,0,0;n1;n1;", 21);
        faultOf("h0,0,0,0;n0;h0,0,0,0;n1;h0,0,0,0;n2;h0,0,0,0;", NONE);
        faultOf("h0,0,0,0;n0;h0,0,0,0;n1;h0,0,0,0;n2;h0,0,0,0;n3;", 45);
        faultOf("m5,1,1;", 0);
        faultOf("m4,0,1;", 0);
        faultOf("m4,10,1;", 0);
        faultOf("m4,1,0;", 0);
        faultOf("m4,1,10;", 0);
        faultOf("m4,9,9;h0,0,0,0;", NONE);
        String work = "m0,1,1;";
        faultOf(work + work + work + work + work + work + "h0,0,0,0;", NONE);
        faultOf(work + work + work + work + work + work + work, 42);
        faultOf("c0;", 0);
        faultOf("h0,0,0,0;c1;", 9);
        faultOf("h0,0,0,0;c0;c0;", NONE);
        String house = "h1,8,1,1;";
        String nine = house + house + house + house + house + house + house + house + house;
        faultOf(nine + house, NONE);
        faultOf(nine + house + "n9;c9;", NONE);
        faultOf(nine + house + house, 90);
    }

    /** Texts of 400 bytes: behind the last one there is nothing to look at. */
    private static void p4FaultOfFullTexts() {
        String most = "h0,1,1,1;w12,9;" + "w7,9;".repeat(76);
        faultOf(most + "w7,9;", NONE);
        faultOf(most + "w7,9,", 395);
        faultOf(most + "w7,99", 395);
        faultOf(most + "w7,9" + (char) 0, 395);
        faultOf(most + "w12,9", 395);
        faultOf(most + "w12,1", 395);
        faultOf(most + "n0;c0", 398);
        faultOf(most + "c0;c0", 398);
        faultOf(most + "c00;c", 399);
        faultOf(most + "c00;n", 399);
    }

    /** Rests are looked at in the end, behind all other faults. */
    private static void p4FaultOfRests() {
        faultOf("h0,7,0,0;", 0);
        faultOf("h1,8,0,0;", NONE);
        faultOf("h1,9,0,0;", 0);
        faultOf("h0,6,0,0;w6,9;", 0);
        faultOf("h0,11,0,0;w12,2;", NONE);
        faultOf("h0,11,0,0;w12,2;w11,2;", 0);
        faultOf("w2,2;h0,1,0,0;h1,2,0,0;h0,2,0,0;", 14);
        faultOf("h0,0,0,0;h0,7,0,0;x", 18);
        faultOf("h0,7,0,0;m0,0,1;", 9);
        faultOf("h0,99,0,0;c0;", 0);
        faultOf("h0,99,0,0;c1;", 10);
    }

    private static void p5Lay() {
        OwnSunday x = laid("w2,3;h0,1,1,0;h1,2,2,1;n1;m0,1,1;c1;");
        due("count(0)", x.count(0), 2);
        x.seen(1, 0, true);
        x.keep();
        due("lay(): the text stays", x.lay(), 2);
        due("count(2)", x.count(2), 36);
        due("count(4): nothing seen", x.count(4), 0);
        due("count(5): nothing kept", x.count(5), 0);
        due("back()", x.back(), NO);
        x.change(0, 0);
        x.seen(1, 0, true);
        x.keep();
        x.write(1, 'q');
        due("lay()", x.lay(), NO);
        due("house(0, 1): nothing changes", x.house(0, 1), 0);
        due("count(4)", x.count(4), 1);
        due("count(5)", x.count(5), 1);
        x.wipe();
        put(x, "w5,5;m0,1,1;");
        due("fault()", x.fault(), NONE);
        due("lay(): no house", x.lay(), NO);
        due("count(6): the weeks stay", x.count(6), 6);
        due("house(1, 4)", x.house(1, 4), 1);
        x.wipe();
        put(x, "h0,3,8,1;");
        due("lay()", x.lay(), 1);
        due("count(6): weeks 7, 9 without", x.count(6), 63);
        due("count(1): no works of the old town", x.count(1), 0);
        due("count(3)", x.count(3), 0);
        due("hands(0, 0): no skills of the old town", x.hands(0, 0), 0);
        due("hands(3, 0)", x.hands(3, 0), 1);
        due("fire(0, 1, 2, 0): cook 0 without", x.fire(0, 1, 2, 0), 0);
        due("fire(0, 1, 3, 0)", x.fire(0, 1, 3, 0), 1);
    }

    private static void p6House() {
        OwnSunday x = laid("w12,5;h0,11,31,3;h1,4,17,2;n1;h1,0,0,0;");
        int[][] want = {{0, 11, 31, 3, 0}, {1, 4, 17, 2, 1}, {1, 0, 0, 0, 0}};
        for (int i = 0; i < 3; i++) {
            for (int what = 0; what < 5; what++) {
                due("house(" + i + ", " + what + ")", x.house(i, what), want[i][what]);
            }
        }
        due("house(-1, 0)", x.house(-1, 0), BAD);
        due("house(3, 0)", x.house(3, 0), BAD);
        due("house(0, -1)", x.house(0, -1), BAD);
        due("house(0, 5)", x.house(0, 5), BAD);
        due("house(least)", x.house(Integer.MIN_VALUE, 0), BAD);
        due("house(most)", x.house(Integer.MAX_VALUE, Integer.MAX_VALUE), BAD);
    }

    private static void p7Up() {
        OwnSunday x = laid("w2,3;h0,0,1,0;h0,1,1,0;h1,0,1,0;h1,2,1,0;");
        due("up(0)", x.up(0), 0b1010);
        due("up(1)", x.up(1), 0b1101);
        due("up(2)", x.up(2), 0b0110);
        due("up(5)", x.up(5), 0b0101);
        due("up(6)", x.up(6), 0b1010);
        due("up(10^15): 0 of the first, 1 of the second week", x.up(LAST), 0b1110);
        due("up(10^15 and 1)", x.up(LAST + 1), BAD);
        due("up(-1)", x.up(-1), BAD);
        due("up(least)", x.up(Long.MIN_VALUE), BAD);
        due("up(most)", x.up(Long.MAX_VALUE), BAD);
    }

    private static void p8Hands() {
        OwnSunday x = laid("w2,3;h0,0,1,0;h0,1,17,0;h1,0,1,0;h1,2,16,0;");
        due("hands(0, 0)", x.hands(0, 0), 1);
        due("hands(0, 1)", x.hands(0, 1), 2);
        due("hands(4, 0)", x.hands(4, 0), 2);
        due("hands(4, 5)", x.hands(4, 5), 0);
        due("hands(1, 0)", x.hands(1, 0), 0);
        due("hands(0, 10^15)", x.hands(0, LAST), 2);
        due("hands(-1, 0)", x.hands(-1, 0), BAD);
        due("hands(5, 0)", x.hands(5, 0), BAD);
        due("hands(0, -1)", x.hands(0, -1), BAD);
        due("hands(0, 10^15 and 1)", x.hands(0, LAST + 1), BAD);
    }

    private static void p9Judge() {
        // Work 1 is short on 0, 2, 4, ..; work 0 when both houses rest: 4, 10, 16, ..
        OwnSunday x = laid("w2,3;h0,0,3,0;h1,1,1,0;m0,1,1;m1,1,1;");
        due("judge(0, 0)", x.judge(0, 0), 0);
        due("judge(0, 1)", x.judge(0, 1), 1);
        due("judge(1, 0)", x.judge(1, 0), 2);
        due("judge(3, 0)", x.judge(3, 0), 4);
        due("judge(3, 1): the lowest work", x.judge(3, 1), 0);
        due("judge(10^15, 0)", x.judge(LAST, 0), LAST);
        due("judge(10^15, 1)", x.judge(LAST, 1), 0);
        x = laid("w11,12;h0,10,1,0;h1,11,1,0;m0,1,1;");
        due("judge(0, 0): the last day of the period", x.judge(0, 0), 131);
        due("judge(132, 0)", x.judge(132, 0), 263);
        due("judge(10^15, 0): beyond it", x.judge(LAST, 0), LAST + 131 - LAST % 132);
        due("judge(-1, 0)", x.judge(-1, 0), BAD);
        due("judge(10^15 and 1, 0)", x.judge(LAST + 1, 0), BAD);
        due("judge(0, -1)", x.judge(0, -1), BAD);
        due("judge(0, 2)", x.judge(0, 2), BAD);
        x = laid("w2,2;h0,0,1,0;h0,1,1,0;m0,1,1;");
        due("judge(0, 0): none", x.judge(0, 0), NONE);
        due("judge(0, 1)", x.judge(0, 1), NONE);
        due("judge(0, 2): BAD ahead of NONE", x.judge(0, 2), BAD);
    }

    private static void p10Still() {
        // All rest on day 2 of 3: short on 2, 5; two days on end never.
        OwnSunday x = laid("w3,3;h0,2,1,0;h1,2,1,0;m0,1,1;m0,1,2;m4,1,1;m4,1,9;m0,2,1;");
        due("still(0)", x.still(0), 1);
        due("still(1)", x.still(1), 0);
        due("still(2): always", x.still(2), 3);
        due("still(3): of the days 3, 4, 5 none has eight ahead of it", x.still(3), 0);
        due("still(4)", x.still(4), 1);
        due("still(5)", x.still(5), BAD);
        due("still(-1)", x.still(-1), BAD);
        // Short on days 0 and 3 of 4: on end over the period's border.
        x = laid("w4,4;h0,0,1,0;h0,3,1,0;m0,2,2;m0,2,3;");
        due("still(0): the days 4 and 3", x.still(0), 1);
        due("still(1)", x.still(1), 0);
        // Always short: days 5 to 9 of which 8, 9 have eight short ones ahead.
        x = laid("w5,5;h0,0,0,0;m0,1,9;m0,1,5;m0,1,6;m0,1,7;");
        due("still(0): the days 8, 9", x.still(0), 2);
        due("still(1)", x.still(1), 5);
        due("still(2): day 5 has five ahead", x.still(2), 5);
        due("still(3): 6, 7, 8, 9", x.still(3), 4);
    }

    private static void p11Together() {
        OwnSunday x = laid("w2,3;h0,0,1,0;h1,1,1,0;h0,1,1,0;");
        due("together(3, 0)", x.together(3, 0), 3);
        due("together(3, 3)", x.together(3, 3), 3);
        due("together(3, 4)", x.together(3, 4), 5);
        due("together(3, 6)", x.together(3, 6), 9);
        due("together(5, 0): never", x.together(5, 0), NONE);
        due("together(7, 10^15)", x.together(7, LAST), NONE);
        due("together(1, 10^15): beyond it", x.together(1, LAST), LAST + 1);
        due("together(0, 0)", x.together(0, 0), BAD);
        due("together(8, 0)", x.together(8, 0), BAD);
        due("together(9, 0)", x.together(9, 0), BAD);
        due("together(-1, 0)", x.together(-1, 0), BAD);
        due("together(5, -1): BAD ahead of NONE", x.together(5, -1), BAD);
        due("together(1, 10^15 and 1)", x.together(1, LAST + 1), BAD);
    }

    private static void p12Often() {
        OwnSunday x = laid("w2,3;h0,0,1,0;h1,1,1,0;h0,1,1,0;");
        due("often(3, 0, 0)", x.often(3, 0, 0), 0);
        due("often(3, 0, 3)", x.often(3, 0, 3), 0);
        due("often(3, 0, 4)", x.often(3, 0, 4), 1);
        due("often(3, 3, 3)", x.often(3, 3, 3), 2);
        due("often(3, 3, 13)", x.often(3, 3, 13), 5);
        due("often(3, 0, 10^12)", x.often(3, 0, TRILLION), 333333333333L);
        due("often(3, 3, 10^12)", x.often(3, 3, TRILLION), 333333333334L);
        due("often(5, 0, 10^12): never", x.often(5, 0, TRILLION), 0);
        due("often(1, 10^15, 3): from an even day on", x.often(1, LAST, 3), 1);
        due("often(1, 0, -1)", x.often(1, 0, -1), BAD);
        due("often(1, 0, 10^12 and 1)", x.often(1, 0, TRILLION + 1), BAD);
        due("often(1, -1, 1)", x.often(1, -1, 1), BAD);
        due("often(1, 10^15 and 1, 1)", x.often(1, LAST + 1, 1), BAD);
        due("often(0, 0, 1)", x.often(0, 0, 1), BAD);
        due("often(8, 0, 1)", x.often(8, 0, 1), BAD);
        due("often(-1, 0, 1)", x.often(-1, 0, 1), BAD);
    }

    private static void p13Longest() {
        // Both up on 3 and 5 of 6: the wait from 6 to 8.
        OwnSunday x = laid("w2,3;h0,0,1,0;h1,1,1,0;h0,1,1,0;");
        due("longest(1)", x.longest(1), 1);
        due("longest(3)", x.longest(3), 3);
        due("longest(5)", x.longest(5), NONE);
        due("longest(7)", x.longest(7), NONE);
        due("longest(0)", x.longest(0), BAD);
        due("longest(8)", x.longest(8), BAD);
        due("longest(-4)", x.longest(-4), BAD);
        // Rests on 0, 1, 4 of 5: on end over the border, 4, 5, 6.
        x = laid("w5,5;h0,0,1,0;h0,1,1,0;h1,4,1,0;");
        due("longest(7)", x.longest(7), 3);
        // Up on day 2 of 3 alone: two ahead of it, none longer.
        x = laid("w3,3;h0,0,1,0;h0,1,1,0;");
        due("longest(3)", x.longest(3), 2);
    }

    private static void p14Street() {
        OwnSunday x = laid("w2,3;h0,1,1,1;h1,2,1,1;h0,0,1,2;h0,1,1,2;h1,0,1,3;");
        due("street(0, 0): no houses", x.street(0, 0), NONE);
        due("street(1, 0)", x.street(1, 0), 5);
        due("street(1, 5)", x.street(1, 5), 5);
        due("street(1, 6)", x.street(1, 6), 11);
        due("street(2, 0): never", x.street(2, 0), NONE);
        due("street(3, 1)", x.street(3, 1), 3);
        due("street(3, 10^15): beyond it", x.street(3, LAST), LAST + 2);
        due("street(4, 0)", x.street(4, 0), BAD);
        due("street(-1, 0)", x.street(-1, 0), BAD);
        due("street(0, -1): BAD ahead of NONE", x.street(0, -1), BAD);
        due("street(1, 10^15 and 1)", x.street(1, LAST + 1), BAD);
    }

    private static void p15Same() {
        OwnSunday x = laid("w4,6;h0,1,1,0;h0,1,1,0;h1,0,1,0;h1,5,1,0;");
        // Day 1 of the one and 5 of the other week meet on day 5; 1 and 0 never do.
        due("same(0)", x.same(0), 3);
        due("same(1)", x.same(1), 5);
        x.change(3, 4);
        due("same(0)", x.same(0), 2);
        due("same(1)", x.same(1), 1);
        due("same(2)", x.same(2), BAD);
        due("same(-1)", x.same(-1), BAD);
        x = laid("w11,12;h0,10,0,0;h1,11,0,0;");
        due("same(0)", x.same(0), 2);
        due("same(1)", x.same(1), 131);
    }

    private static void p16Harvest() {
        // Hands by day of 6: 1, 1, 1, 2, 0, 2.
        OwnSunday x = laid("w2,3;h0,0,1,0;h1,1,1,0;");
        due("harvest(0, 0, 1)", x.harvest(0, 0, 1), 1);
        due("harvest(0, 0, 4)", x.harvest(0, 0, 4), 4);
        due("harvest(0, 0, 5)", x.harvest(0, 0, 5), 4);
        due("harvest(0, 0, 6)", x.harvest(0, 0, 6), 6);
        due("harvest(0, 0, 7)", x.harvest(0, 0, 7), 6);
        due("harvest(0, 0, 8)", x.harvest(0, 0, 8), 7);
        due("harvest(0, 4, 1)", x.harvest(0, 4, 1), 2);
        due("harvest(0, 0, 12): of two periods", x.harvest(0, 0, 12), 10);
        due("harvest(0, 5, 7): done ahead of the day on which all rest", x.harvest(0, 5, 7), 5);
        due("harvest(0, 5, 8)", x.harvest(0, 5, 8), 7);
        due("harvest(0, 0, 10^12)", x.harvest(0, 0, TRILLION), 857142857143L);
        due("harvest(0, 10^15, 1)", x.harvest(0, LAST, 1), 2);
        due("harvest(1, 0, 1)", x.harvest(1, 0, 1), NONE);
        due("harvest(5, 0, 1)", x.harvest(5, 0, 1), BAD);
        due("harvest(-1, 0, 1)", x.harvest(-1, 0, 1), BAD);
        due("harvest(1, -1, 1): BAD ahead of NONE", x.harvest(1, -1, 1), BAD);
        due("harvest(0, 10^15 and 1, 1)", x.harvest(0, LAST + 1, 1), BAD);
        due("harvest(0, 0, 0)", x.harvest(0, 0, 0), BAD);
        due("harvest(0, 0, 10^12 and 1)", x.harvest(0, 0, TRILLION + 1), BAD);
    }

    private static void p17Settled() {
        // One of the two must be up: 1 and 2 must not rest together, 0 has no skill.
        OwnSunday x = laid("w3,3;h0,0,0,0;h0,0,1,0;h1,0,1,0;n1;n2;m0,1,1;");
        due("settled(-1)", x.settled(-1), 6);
        due("settled(-2): all by themselves", x.settled(-2), 1);
        due("settled(1)", x.settled(1), 1);
        due("settled(2)", x.settled(2), 2);
        due("settled(0): not new", x.settled(0), BAD);
        due("settled(3)", x.settled(3), BAD);
        due("settled(-3)", x.settled(-3), BAD);
        due("house(1, 1): nothing changes", x.house(1, 1), 0);
        // The rests that the new ones have now do not count.
        x = laid("w3,3;h0,0,1,0;h0,0,1,0;n1;m0,1,1;");
        due("settled(-1)", x.settled(-1), 2);
        due("settled(1)", x.settled(1), 1);
        x = laid("w2,2;h0,0,1,0;h0,0,1,0;n1;m0,2,1;");
        due("settled(-1): no way", x.settled(-1), 0);
        due("settled(-2)", x.settled(-2), NONE);
        due("settled(1)", x.settled(1), NONE);
        due("settled(0): BAD ahead of NONE", x.settled(0), BAD);
        x = laid("w2,2;h0,0,1,0;h0,1,1,0;m0,1,1;");
        due("settled(-1): none new, all goes on", x.settled(-1), 1);
        due("settled(-2)", x.settled(-2), 1);
        x.change(1, 0);
        due("settled(-1): none new, not all goes on", x.settled(-1), 0);
        due("settled(-2)", x.settled(-2), NONE);
        x = laid("w12,12;h0,0,0,0;n0;h0,0,0,0;n1;h1,0,0,0;n2;");
        due("settled(-1): all ways", x.settled(-1), 1728);
        due("settled(-2)", x.settled(-2), 1);
        due("settled(0)", x.settled(0), 0);
        due("settled(1)", x.settled(1), 1);
        due("settled(2)", x.settled(2), 2);
    }

    private static void p18Years() {
        OwnSunday x = laid("w3,3;h0,0,1,0;h0,0,3,0;h0,0,3,0;h1,0,2,0;m0,1,1;m0,2,1;m1,2,1;m1,3,1;");
        yearsAre(x, 0, 1, 0, 1, NONE, NONE);
        yearsAre(x, 1, 2, 0, 1, 1, 2);
        yearsAre(x, 2, 2, 1, 1, 2, 2);
        yearsAre(x, 3, NONE, NONE, NONE, NONE, NONE);
        x.change(0, 2);
        yearsAre(x, 0, 0, NONE, NONE, NONE, NONE);
        yearsAre(x, 1, 1, 1, 1, NONE, NONE);
        // Three of four rest on day 1 and two at most may: the lower one first, and its first rest.
        x = laid("w3,3;h0,2,0,0;h0,1,1,0;h0,1,1,0;h0,1,1,0;h0,0,1,0;m0,2,1;");
        yearsAre(x, 0, 1, 1, 0, NONE, NONE);
        // Five rest on day 0 of 4 and two at most may on any: three changes are needed.
        x = laid("w4,4;h0,0,1,0;h0,0,1,0;h0,0,1,0;h0,0,1,0;h0,0,1,0;m0,3,1;m0,2,1;m0,9,1;");
        yearsAre(x, 0, NONE, NONE, NONE, NONE, NONE);
        yearsAre(x, 1, 2, 0, 1, 1, 1);
        yearsAre(x, 2, NONE, NONE, NONE, NONE, NONE);
        // Rests told that lie behind the new ones, by which the second house's first rest is not its lowest.
        OwnSunday y = laid("w3,3;h1,2,1,0;h1,2,1,0;h1,2,1,0;m0,2,1;");
        yearsAre(y, 0, 2, 0, 0, 1, 1);
        due("years(3, 0)", x.years(3, 0), BAD);
        due("years(-1, 0)", x.years(-1, 0), BAD);
        due("years(0, 5): BAD ahead of NONE", x.years(0, 5), BAD);
        due("years(0, -1)", x.years(0, -1), BAD);
        due("house(0, 1): nothing changes", x.house(0, 1), 0);
    }

    private static void yearsAre(OwnSunday x, int w, int... want) {
        for (int what = 0; what < 5; what++) {
            due("years(" + w + ", " + what + ")", x.years(w, what), want[what]);
        }
    }

    private static void p19Wedding() {
        // By house 0's day both rest on 0, 2, 4: short on 3 days of 6; by house 1's on 1, 4: on 2.
        OwnSunday x = laid("w2,3;h0,0,1,0;h1,1,1,0;m0,1,1;");
        due("wedding(0, 1, 0)", x.wedding(0, 1, 0), 2);
        due("wedding(0, 1, 1)", x.wedding(0, 1, 1), 1);
        due("wedding(1, 0, 0)", x.wedding(1, 0, 0), 2);
        due("wedding(1, 0, 1)", x.wedding(1, 0, 1), 0);
        due("house(0, 0): nothing changes", x.house(0, 0), 0);
        due("house(1, 0)", x.house(1, 0), 1);
        due("wedding(0, 0, 0)", x.wedding(0, 0, 0), BAD);
        due("wedding(0, 2, 0)", x.wedding(0, 2, 0), BAD);
        due("wedding(-1, 0, 0)", x.wedding(-1, 0, 0), BAD);
        due("wedding(0, 1, 2)", x.wedding(0, 1, 2), BAD);
        due("wedding(0, 1, -1)", x.wedding(0, 1, -1), BAD);
        x = laid("w4,4;h0,0,1,0;h1,1,1,0;m0,1,1;m0,2,1;");
        due("wedding(0, 1, 0): a day on which two works are short is one", x.wedding(0, 1, 0), 1);
        due("wedding(0, 1, 1): alike, so the first", x.wedding(0, 1, 1), 0);
        due("wedding(1, 0, 1)", x.wedding(1, 0, 1), 0);
        x = laid("h0,0,1,0;h1,1,1,0;");
        due("wedding(0, 1, 0): no works", x.wedding(0, 1, 0), 0);
        due("wedding(0, 1, 1)", x.wedding(0, 1, 1), 0);
    }

    private static void p20Seen() {
        OwnSunday x = laid("h0,0,1,0;m0,1,1;m0,1,2;");
        due("seen(-1, 0)", x.seen(-1, 0, true), BAD);
        due("seen(10^15 and 1, 0)", x.seen(LAST + 1, 0, true), BAD);
        due("seen(0, 2)", x.seen(0, 2, true), BAD);
        due("seen(0, -1)", x.seen(0, -1, false), BAD);
        for (int k = 1; k <= 20; k++) {
            due("seen " + k, x.seen(k == 1 ? LAST : k, k % 2, k % 3 == 0), k);
        }
        due("seen(0, 0): 21", x.seen(0, 0, true), FULL);
        due("seen(0, 2): BAD ahead of FULL", x.seen(0, 2, true), BAD);
        due("count(4)", x.count(4), 20);
        due("seen(0, 0) without works", new OwnSunday().seen(0, 0, true), BAD);
    }

    private static void p21Forget() {
        OwnSunday x = laid("h0,0,1,0;n0;m0,1,1;");
        x.seen(3, 0, false);
        x.seen(3, 0, true);
        due("fits(-1)", x.fits(-1, false), 0);
        due("forget()", x.forget(), 2);
        due("forget()", x.forget(), 0);
        due("fits(-1)", x.fits(-1, false), 7);
        due("seen", x.seen(0, 0, false), 1);
        due("fits(-1)", x.fits(-1, false), 1);
    }

    private static void p22Fits() {
        OwnSunday x = laid("w4,5;h0,0,1,0;h0,0,3,0;n1;h1,0,3,0;n2;m0,2,1;m1,1,1;");
        due("fits(-1)", x.fits(-1, false), 20);
        due("fits(1, true)", x.fits(1, true), 15);
        due("fits(2, true)", x.fits(2, true), 31);
        due("seen: on day 1 both were up", x.seen(1, 0, true), 1);
        // Not both of them rest on day 1; one may.
        due("fits(-1)", x.fits(-1, true), 19);
        x.seen(6, 1, false);
        // On day 6 both rest: rests 2 and 1.
        due("fits(-1)", x.fits(-1, false), 1);
        due("fits(1, false)", x.fits(1, false), 2);
        due("fits(2, false)", x.fits(2, false), 1);
        due("fits(1, true)", x.fits(1, true), 4);
        due("fits(2, true)", x.fits(2, true), 2);
        x.seen(6, 1, true);
        due("fits(-1): none", x.fits(-1, false), 0);
        due("fits(1, false)", x.fits(1, false), NONE);
        due("fits(1, true)", x.fits(1, true), NONE);
        due("fits(0, true): BAD ahead of NONE", x.fits(0, true), BAD);
        due("fits(3, true)", x.fits(3, true), BAD);
        due("fits(-2, true)", x.fits(-2, true), BAD);
        due("house(1, 1): nothing changes", x.house(1, 1), 0);
        x.forget();
        x.seen(4, 0, false);
        // House 0 rests on day 4 and so one of the two at least.
        due("fits(-1)", x.fits(-1, false), 8);
        due("fits(1, false): the first of them", x.fits(1, false), 0);
        due("fits(2, false)", x.fits(2, false), 0);
        due("fits(1, true)", x.fits(1, true), 15);
        x.change(0, 1);
        due("fits(-1): as it is now", x.fits(-1, false), 1);
        due("fits(2, false)", x.fits(2, false), 4);
        x.forget();
        x.seen(2, 1, true);
        x.seen(2, 0, true);
        x.seen(2, 1, false);
        due("fits(-1): of one work both", x.fits(-1, false), 0);
        x.forget();
        // Work 1 would not be seen so: it stands by one of the two, work 0 by two of the three.
        x.seen(1, 0, false);
        x.seen(1, 1, true);
        due("fits(-1): of each work its own", x.fits(-1, false), 7);
        OwnSunday none = laid("h0,0,1,0;m0,1,1;");
        due("fits(-1): none new", none.fits(-1, false), 1);
        none.seen(0, 0, true);
        due("fits(-1)", none.fits(-1, false), 0);
        due("fits(0, false)", none.fits(0, false), BAD);
    }

    private static void p23Fire() {
        // x is 1, 7920 for z = 0, 1: the squares modulo 65521 are 1, 22803, and that modulo 999 is 825.
        OwnSunday x = laid("w2,10;h0,0,0,0;h1,3,0,0;h1,3,0,0;c1;");
        due("fire(1, 999, 0, 0): day 825", x.fire(1, 999, 0, 0), 0);
        due("fire(1, 999, 0, 1)", x.fire(1, 999, 0, 1), 3);
        due("fire(1, 999, 8, 0): day 833", x.fire(1, 999, 8, 0), 1);
        due("fire(1, 999, 8, 1)", x.fire(1, 999, 8, 1), 1);
        due("fire(0, 2, 2, 0): day 3", x.fire(0, 2, 2, 0), 1);
        due("fire(0, 1, 2, 0): day 2", x.fire(0, 1, 2, 0), 0);
        due("fire(0, 1, 2, 1)", x.fire(0, 1, 2, 1), 2);
        due("fire(0, 1, 3, 2): all on day 3", x.fire(0, 1, 3, 2), 100);
        due("fire(0, 1, 4, 2)", x.fire(0, 1, 4, 2), 0);
        int count = 0;
        for (int k = 0; k < 100; k++) {
            count += x.fire((9950 + k) % 10000, 365, 7, 0);
        }
        due("fire(9950, 365, 7, 2): behind 9999 comes 0", x.fire(9950, 365, 7, 2), count);
        due("fire(9999, 999, 10^15, 0)", x.fire(9999, 999, LAST, 0), fireOf(9999, 999) % 10 == 3 ? 1 : 0);
        due("fire(-1, 1, 0, 0)", x.fire(-1, 1, 0, 0), BAD);
        due("fire(10000, 1, 0, 0)", x.fire(10000, 1, 0, 0), BAD);
        due("fire(0, 0, 0, 0)", x.fire(0, 0, 0, 0), BAD);
        due("fire(0, 1000, 0, 0)", x.fire(0, 1000, 0, 0), BAD);
        due("fire(0, 1, -1, 0)", x.fire(0, 1, -1, 0), BAD);
        due("fire(0, 1, 10^15 and 1, 0)", x.fire(0, 1, LAST + 1, 0), BAD);
        due("fire(0, 1, 0, 3)", x.fire(0, 1, 0, 3), BAD);
        due("fire(0, 1, 0, -1)", x.fire(0, 1, 0, -1), BAD);
        x = laid("h0,1,0,0;h0,2,0,0;c1;c0;");
        due("fire(0, 1, 1, 0): the last cook told counts", x.fire(0, 1, 1, 0), 1);
    }

    private static long fireOf(int z, int n) {
        long x = (7919L * z + 1) % 65521;
        return x * x % 65521 % n;
    }

    private static void p24Change() {
        OwnSunday x = laid("w2,12;h0,0,1,0;h1,11,1,0;n1;");
        due("change(0, 1)", x.change(0, 1), 0);
        due("change(0, 1)", x.change(0, 1), 1);
        due("house(0, 1)", x.house(0, 1), 1);
        due("up(1)", x.up(1), 2);
        due("change(0, 2)", x.change(0, 2), BAD);
        due("change(0, -1)", x.change(0, -1), BAD);
        due("change(1, 12)", x.change(1, 12), BAD);
        due("change(1, 0)", x.change(1, 0), 11);
        due("house(1, 4): new still", x.house(1, 4), 1);
        due("change(2, 0)", x.change(2, 0), BAD);
        due("change(-1, 0)", x.change(-1, 0), BAD);
        due("house(0, 1)", x.house(0, 1), 1);
    }

    private static void p25Wed() {
        OwnSunday x = laid("w2,12;h0,1,1,2;h1,11,2,3;n1;");
        due("wed(1, 0)", x.wed(1, 0), 1);
        due("house(0, 0)", x.house(0, 0), 1);
        due("house(0, 1)", x.house(0, 1), 11);
        due("house(0, 2): skills stay", x.house(0, 2), 1);
        due("house(0, 3)", x.house(0, 3), 2);
        due("house(0, 4)", x.house(0, 4), 0);
        due("house(1, 1)", x.house(1, 1), 11);
        due("house(1, 4)", x.house(1, 4), 1);
        due("change(0, 5): of the new week", x.change(0, 5), 11);
        due("wed(0, 1)", x.wed(0, 1), 11);
        due("house(1, 1)", x.house(1, 1), 5);
        due("count(6): the weeks of the town stay", x.count(6), 12);
        due("wed(0, 0)", x.wed(0, 0), BAD);
        due("wed(0, 2)", x.wed(0, 2), BAD);
        due("wed(-1, 0)", x.wed(-1, 0), BAD);
        x = laid("w2,3;h0,1,0,0;h1,2,0,0;n1;");
        due("settled(-1)", x.settled(-1), 3);
        x.wed(0, 1);
        due("settled(-1): rests of the week that it has now", x.settled(-1), 2);
    }

    private static void p26Settle() {
        OwnSunday x = laid("w3,3;h0,0,0,0;h0,0,1,0;h1,0,1,0;n1;n2;m0,1,1;");
        x.seen(0, 0, true);
        due("settle()", x.settle(), 2);
        due("house(0, 1)", x.house(0, 1), 0);
        due("house(1, 1)", x.house(1, 1), 1);
        due("house(2, 1)", x.house(2, 1), 2);
        due("house(1, 4)", x.house(1, 4), 0);
        due("house(2, 4)", x.house(2, 4), 0);
        due("count(3)", x.count(3), 0);
        due("count(4): what was seen stays", x.count(4), 1);
        due("settle(): none is new", x.settle(), NO);
        due("settled(1)", x.settled(1), BAD);
        x = laid("w2,2;h0,0,1,0;h0,1,1,0;n1;m0,2,1;");
        due("settle(): no way", x.settle(), NO);
        due("house(1, 1)", x.house(1, 1), 1);
        due("house(1, 4)", x.house(1, 4), 1);
    }

    private static void p27Keep() {
        OwnSunday x = new OwnSunday();
        due("keep()", x.keep(), 1);
        due("keep()", x.keep(), 2);
        x.change(0, 3);
        due("keep()", x.keep(), FULL);
        due("count(5)", x.count(5), 2);
        due("back(): what FULL told of was not kept", x.back(), 1);
        due("house(0, 1)", x.house(0, 1), 6);
        due("keep()", x.keep(), 2);
    }

    private static void p28Back() {
        OwnSunday x = laid("w3,4;h0,0,1,0;h1,3,1,0;n1;m0,1,1;m0,2,1;");
        due("back()", x.back(), NO);
        x.keep();
        x.wed(0, 1);
        x.keep();
        x.change(0, 2);
        x.settle();
        due("back()", x.back(), 1);
        due("house(0, 1)", x.house(0, 1), 0);
        due("house(1, 0)", x.house(1, 0), 0);
        due("house(1, 1)", x.house(1, 1), 0);
        due("house(1, 4)", x.house(1, 4), 1);
        x.change(0, 1);
        due("back()", x.back(), 0);
        due("house(0, 1)", x.house(0, 1), 0);
        due("house(1, 0)", x.house(1, 0), 1);
        due("house(1, 1)", x.house(1, 1), 3);
        due("back()", x.back(), NO);
        due("house(1, 1)", x.house(1, 1), 3);
        x.wipe();
        x.write(1, 'h');
        x.keep();
        x.wipe();
        x.back();
        due("count(2): the text is not kept", x.count(2), 0);
        x.change(0, 0);
        x.keep();
        due("settle(): all but work 1 goes on", x.settle(), NO);
        x = laid("w3,4;h0,0,0,0;h1,3,0,0;n1;");
        x.keep();
        due("settle()", x.settle(), 1);
        due("count(3)", x.count(3), 0);
        x.back();
        due("count(3): new once more", x.count(3), 1);
        due("house(1, 1)", x.house(1, 1), 3);
    }

    private static void p28BackToWhatWasSeen() {
        OwnSunday x = laid("w3,4;h0,0,1,0;h1,3,1,0;n1;m0,1,1;m0,2,1;");
        x.seen(2, 1, true);
        x.seen(3, 0, true);
        // Not on day 2, not on day 3 of its week.
        due("fits(-1)", x.fits(-1, false), 2);
        due("fits(1, true)", x.fits(1, true), 3);
        x.keep();
        x.forget();
        x.seen(1, 0, true);
        x.seen(0, 1, false);
        x.seen(9, 0, true);
        x.keep();
        x.forget();
        x.seen(0, 0, false);
        due("back()", x.back(), 1);
        due("count(4)", x.count(4), 3);
        due("fits(1, true): up on day 9", x.fits(1, true), 13);
        due("back()", x.back(), 0);
        due("count(4)", x.count(4), 2);
        due("fits(-1)", x.fits(-1, false), 2);
        due("fits(1, true)", x.fits(1, true), 3);
    }

    private static void p29Count() {
        OwnSunday x = laid("w8,12;h0,0,1,0;h0,1,1,0;h1,1,1,0;n0;n2;m0,1,1;m1,1,1;m1,2,1;m1,3,1;");
        x.seen(0, 0, true);
        x.keep();
        int[] want = {3, 4, 67, 2, 1, 1, 24};
        for (int what = 0; what < 7; what++) {
            due("count(" + what + ")", x.count(what), want[what]);
        }
        due("count(7)", x.count(7), BAD);
        due("count(-1)", x.count(-1), BAD);
        int[][] periods = {{2, 2, 2}, {12, 12, 12}, {11, 12, 132}, {12, 11, 132}, {6, 4, 12}, {3, 12, 12}, {10, 9, 90}};
        for (int[] p : periods) {
            OwnSunday y = laid("w" + p[0] + "," + p[1] + ";h0,0,0,0;");
            due("count(6) of " + p[0] + ", " + p[1], y.count(6), p[2]);
        }
    }

    public static void main(String[] args) {
        Runnable[] promises = {PromisesTest::p1New, PromisesTest::p2Write, PromisesTest::p3Wipe,
            () -> { p4FaultOfForm(); p4FaultOfNumbers(); p4FaultOfFullTexts(); p4FaultOfRests(); }, PromisesTest::p5Lay,
            PromisesTest::p6House, PromisesTest::p7Up, PromisesTest::p8Hands, PromisesTest::p9Judge,
            PromisesTest::p10Still, PromisesTest::p11Together, PromisesTest::p12Often, PromisesTest::p13Longest,
            PromisesTest::p14Street, PromisesTest::p15Same, PromisesTest::p16Harvest, PromisesTest::p17Settled,
            PromisesTest::p18Years, PromisesTest::p19Wedding, PromisesTest::p20Seen, PromisesTest::p21Forget,
            PromisesTest::p22Fits, PromisesTest::p23Fire, PromisesTest::p24Change, PromisesTest::p25Wed,
            PromisesTest::p26Settle, PromisesTest::p27Keep,
            () -> { p28Back(); p28BackToWhatWasSeen(); }, PromisesTest::p29Count};
        for (Runnable p : promises) {
            promise++;
            p.run();
        }
        System.out.println(asked + " answers of " + promise + " promises, " + wrong + " not as due");
        if (wrong != 0) {
            System.exit(1);
        }
    }
}
