import java.nio.charset.StandardCharsets;
import java.util.ArrayList;
import java.util.List;
import java.util.Random;
import java.util.function.Predicate;
import java.util.regex.Matcher;
import java.util.regex.Pattern;

/** Long runs of drawn calls (always the same draws), each answer set beside that of a slow, plain model. */
public final class ModelTest {
    private static final int BAD = -1, NO = -2, FULL = -3, NONE = -4;
    private static final long LAST = 1000000000000000L, TRILLION = 1000000000000L;

    /** One house of the model. */
    private static final class House {
        int week, rest, skills, street;
        boolean isNew;

        House(int week, int rest, int skills, int street) {
            this.week = week; this.rest = rest; this.skills = skills; this.street = street;
        }

        House copy() {
            House h = new House(week, rest, skills, street);
            h.isNew = isNew;
            return h;
        }
    }

    private record Work(int skill, int need, int days) { }

    private record Sight(long day, int work, boolean went) { }

    private record Page(List<House> houses, List<Sight> sights) { }

    /** What stands in a text; fault is NONE if it has none. */
    private static final class Told {
        int[] length = {7, 9};
        List<House> houses = new ArrayList<>();
        List<Work> works = new ArrayList<>();
        int cook;
        int fault = NONE;
    }

    private static final class Model {
        String text = "";
        int[] length = {7, 9};
        List<House> houses = new ArrayList<>(List.of(new House(0, 6, 1, 0)));
        List<Work> works = new ArrayList<>();
        int cook;
        List<Sight> sights = new ArrayList<>();
        List<Page> pages = new ArrayList<>();

        static final Pattern ITEM = Pattern.compile("w(\\d\\d?),(\\d\\d?);|h(\\d\\d?),(\\d\\d?),(\\d\\d?),(\\d\\d?);"
            + "|n(\\d\\d?);|m(\\d\\d?),(\\d\\d?),(\\d\\d?);|c(\\d\\d?);");

        Told tell() {
            Told told = new Told();
            List<Integer> places = new ArrayList<>();
            Matcher m = ITEM.matcher(text);
            int at = 0;
            int lastNew = -1;
            int news = 0;
            while (at < text.length()) {
                m.region(at, text.length());
                boolean good = m.lookingAt();
                if (good) {
                    int[] v = new int[12];
                    for (int k = 1; k <= 11; k++) {
                        v[k] = m.group(k) == null ? -1 : Integer.parseInt(m.group(k));
                    }
                    switch (text.charAt(at)) {
                        case 'w' -> {
                            good = v[1] >= 2 && v[1] <= 12 && v[2] >= 2 && v[2] <= 12;
                            told.length = new int[] {v[1], v[2]};
                        }
                        case 'h' -> {
                            good = v[3] <= 1 && v[5] <= 31 && v[6] <= 3 && told.houses.size() < 10;
                            told.houses.add(new House(v[3], v[4], v[5], v[6]));
                            places.add(at);
                        }
                        case 'n' -> {
                            good = v[7] < told.houses.size() && v[7] > lastNew && news < 3;
                            if (good) {
                                told.houses.get(v[7]).isNew = true;
                                lastNew = v[7];
                                news++;
                            }
                        }
                        case 'm' -> {
                            good = v[8] <= 4 && v[9] >= 1 && v[9] <= 9 && v[10] >= 1 && v[10] <= 9
                                && told.works.size() < 6;
                            told.works.add(new Work(v[8], v[9], v[10]));
                        }
                        default -> {
                            good = v[11] < told.houses.size();
                            told.cook = v[11];
                        }
                    }
                }
                if (!good) {
                    told.fault = at;
                    return told;
                }
                at = m.end();
            }
            for (int i = 0; i < places.size() && told.fault == NONE; i++) {
                House h = told.houses.get(i);
                if (h.rest >= told.length[h.week]) {
                    told.fault = places.get(i);
                }
            }
            return told;
        }

        boolean rests(House h, long d) {
            return d % length[h.week] == h.rest;
        }

        int hands(List<House> town, int s, long d) {
            int n = 0;
            for (House h : town) {
                if ((h.skills >> s & 1) == 1 && !rests(h, d)) {
                    n++;
                }
            }
            return n;
        }

        boolean isShort(List<House> town, int w, long d) {
            return d >= 0 && hands(town, works.get(w).skill, d) < works.get(w).need;
        }

        boolean anyShort(List<House> town, long d) {
            for (int w = 0; w < works.size(); w++) {
                if (isShort(town, w, d)) {
                    return true;
                }
            }
            return false;
        }

        boolean neverShort(List<House> town, int w) {
            for (long d = 0; d < period(); d++) {
                if (isShort(town, w, d)) {
                    return false;
                }
            }
            return true;
        }

        int period() {
            int p = 1;
            while (p % length[0] != 0 || p % length[1] != 0) {
                p++;
            }
            return p;
        }

        int resting(List<House> town, long d) {
            return (int) town.stream().filter(h -> rests(h, d)).count();
        }

        int most(List<House> town) {
            int most = 0;
            for (int d = 0; d < period(); d++) {
                most = Math.max(most, resting(town, d));
            }
            return most;
        }

        boolean allUp(int set, long d) {
            for (int i = 0; i < houses.size(); i++) {
                if ((set >> i & 1) == 1 && rests(houses.get(i), d)) {
                    return false;
                }
            }
            return true;
        }

        static List<House> copy(List<House> town) {
            List<House> copy = new ArrayList<>();
            town.forEach(h -> copy.add(h.copy()));
            return copy;
        }

        boolean isHouse(int i) { return i >= 0 && i < houses.size(); }

        boolean isWork(int w) { return w >= 0 && w < works.size(); }

        boolean isSet(int set) { return set > 0 && set < 1 << houses.size(); }

        boolean isDay(long d) { return d >= 0 && d <= LAST; }

        int write(int n, long v) {
            if (n < 1 || n > 8) { return BAD; }
            if (text.length() + n > 400) { return FULL; }
            byte[] all = java.nio.ByteBuffer.allocate(8).putLong(v).array();
            text += new String(all, 8 - n, n, StandardCharsets.ISO_8859_1);
            return text.length();
        }

        int wipe() {
            int was = text.length();
            text = "";
            return was;
        }

        int lay() {
            Told told = tell();
            if (told.fault != NONE || told.houses.isEmpty()) { return NO; }
            length = told.length;
            houses = told.houses;
            works = told.works;
            cook = told.cook;
            sights.clear();
            pages.clear();
            return houses.size();
        }

        int house(int i, int what) {
            if (!isHouse(i) || what < 0 || what > 4) { return BAD; }
            House h = houses.get(i);
            return new int[] {h.week, h.rest, h.skills, h.street, h.isNew ? 1 : 0}[what];
        }

        int up(long d) {
            if (!isDay(d)) { return BAD; }
            int bits = 0;
            for (int i = 0; i < houses.size(); i++) {
                bits += rests(houses.get(i), d) ? 0 : 1 << i;
            }
            return bits;
        }

        int handsAsked(int s, long d) {
            return s < 0 || s > 4 || !isDay(d) ? BAD : hands(houses, s, d);
        }

        long judge(long d, int what) {
            if (!isDay(d) || what < 0 || what > 1) { return BAD; }
            for (long day = d; day <= d + 999; day++) {
                for (int w = 0; w < works.size(); w++) {
                    if (isShort(houses, w, day)) { return what == 0 ? day : w; }
                }
            }
            return NONE;
        }

        int still(int w) {
            if (!isWork(w)) { return BAD; }
            int n = 0;
            for (int day = period(); day < 2 * period(); day++) {
                boolean stands = true;
                for (int back = 0; back < works.get(w).days; back++) {
                    stands &= isShort(houses, w, day - back);
                }
                n += stands ? 1 : 0;
            }
            return n;
        }

        long together(int set, long d) {
            if (!isSet(set) || !isDay(d)) { return BAD; }
            for (long day = d; day < d + 300; day++) {
                if (allUp(set, day)) { return day; }
            }
            return NONE;
        }

        long often(int set, long d, long n) {
            if (!isSet(set) || !isDay(d) || n < 0 || n > TRILLION) { return BAD; }
            long all = 0;
            long part = 0;
            for (int k = 0; k < period(); k++) {
                all += allUp(set, d + k) ? 1 : 0;
            }
            for (int k = 0; k < n % period(); k++) {
                part += allUp(set, d + k) ? 1 : 0;
            }
            return all * (n / period()) + part;
        }

        int longest(int set) {
            if (!isSet(set)) { return BAD; }
            int most = 0;
            boolean ever = false;
            for (int from = 0; from < 2 * period(); from++) {
                int to = from;
                while (to < 2 * period() && !allUp(set, to)) { to++; }
                most = Math.max(most, to - from);
                ever |= allUp(set, from);
            }
            return ever ? most : NONE;
        }

        long street(int t, long d) {
            if (t < 0 || t > 3 || !isDay(d)) { return BAD; }
            for (long day = d; day < d + 300; day++) {
                int of = 0;
                int resting = 0;
                for (House h : houses) {
                    of += h.street == t ? 1 : 0;
                    resting += h.street == t && rests(h, day) ? 1 : 0;
                }
                if (of > 0 && of == resting) { return day; }
            }
            return NONE;
        }

        int same(int what) {
            if (what < 0 || what > 1) { return BAD; }
            int most = most(houses);
            if (what == 0) { return most; }
            int day = 0;
            while (resting(houses, day) < most) { day++; }
            return day;
        }

        long harvest(int s, long d, long h) {
            if (s < 0 || s > 4 || !isDay(d) || h < 1 || h > TRILLION) { return BAD; }
            if (houses.stream().noneMatch(x -> (x.skills >> s & 1) == 1)) { return NONE; }
            long least = 1;
            long enough = 4 * TRILLION;
            while (least < enough) {
                long mid = (least + enough) / 2;
                if (done(s, d, mid) >= h) { enough = mid; } else { least = mid + 1; }
            }
            return least;
        }

        long done(int s, long d, long days) {
            long all = 0;
            long part = 0;
            for (int k = 0; k < period(); k++) {
                int n = hands(houses, s, d + k);
                all += n;
                part += k < days % period() ? n : 0;
            }
            return all * (days / period()) + part;
        }

        /** All ways in the order of the document that the test lets through. */
        List<List<House>> ways(Predicate<List<House>> test) {
            List<List<House>> ways = new ArrayList<>();
            gather(copy(houses), 0, test, ways);
            return ways;
        }

        void gather(List<House> town, int from, Predicate<List<House>> test, List<List<House>> ways) {
            int i = from;
            while (i < town.size() && !town.get(i).isNew) { i++; }
            if (i == town.size()) {
                if (test.test(town)) { ways.add(copy(town)); }
                return;
            }
            for (int r = 0; r < length[town.get(i).week]; r++) {
                town.get(i).rest = r;
                gather(town, i + 1, test, ways);
            }
        }

        boolean goesOn(List<House> town) {
            for (int w = 0; w < works.size(); w++) {
                if (!neverShort(town, w)) { return false; }
            }
            return true;
        }

        List<House> fairest(List<List<House>> ways) {
            List<House> best = null;
            for (List<House> way : ways) {
                if (best == null || most(way) < most(best)) { best = way; }
            }
            return best;
        }

        int settled(int i) {
            if (i != -1 && i != -2 && (!isHouse(i) || !houses.get(i).isNew)) { return BAD; }
            List<List<House>> ways = ways(this::goesOn);
            if (i == -1) { return ways.size(); }
            if (ways.isEmpty()) { return NONE; }
            List<House> best = fairest(ways);
            return i == -2 ? most(best) : best.get(i).rest;
        }

        int years(int w, int what) {
            if (!isWork(w) || what < 0 || what > 4) { return BAD; }
            int[] answer = changes(w);
            return answer[what];
        }

        int[] changes(int w) {
            if (neverShort(houses, w)) { return new int[] {0, NONE, NONE, NONE, NONE}; }
            for (int i = 0; i < houses.size(); i++) {
                for (int r = 0; r < length[houses.get(i).week]; r++) {
                    List<House> town = copy(houses);
                    town.get(i).rest = r;
                    if (neverShort(town, w)) { return new int[] {1, i, r, NONE, NONE}; }
                }
            }
            for (int i = 0; i < houses.size(); i++) {
                for (int r = 0; r < length[houses.get(i).week]; r++) {
                    for (int j = i + 1; j < houses.size(); j++) {
                        for (int q = 0; q < length[houses.get(j).week]; q++) {
                            List<House> town = copy(houses);
                            town.get(i).rest = r;
                            town.get(j).rest = q;
                            if (neverShort(town, w)) { return new int[] {2, i, r, j, q}; }
                        }
                    }
                }
            }
            return new int[] {NONE, NONE, NONE, NONE, NONE};
        }

        int wedding(int i, int j, int what) {
            if (!isHouse(i) || !isHouse(j) || i == j || what < 0 || what > 1) { return BAD; }
            int[] days = new int[2];
            for (int whose = 0; whose < 2; whose++) {
                List<House> town = copy(houses);
                House by = houses.get(whose == 0 ? i : j);
                for (int k : new int[] {i, j}) {
                    town.get(k).week = by.week;
                    town.get(k).rest = by.rest;
                }
                for (int d = 0; d < period(); d++) {
                    days[whose] += anyShort(town, d) ? 1 : 0;
                }
            }
            return what == 0 ? Math.min(days[0], days[1]) : days[1] < days[0] ? 1 : 0;
        }

        int seen(long d, int w, boolean went) {
            if (!isDay(d) || !isWork(w)) { return BAD; }
            if (sights.size() == 20) { return FULL; }
            sights.add(new Sight(d, w, went));
            return sights.size();
        }

        int forget() {
            int was = sights.size();
            sights.clear();
            return was;
        }

        boolean wasSo(List<House> town) {
            return sights.stream().allMatch(s -> isShort(town, s.work, s.day) != s.went);
        }

        int fits(int i, boolean alike) {
            if (i != -1 && (!isHouse(i) || !houses.get(i).isNew)) { return BAD; }
            List<List<House>> ways = ways(this::wasSo);
            if (i == -1) { return ways.size(); }
            if (ways.isEmpty()) { return NONE; }
            int bits = 0;
            for (List<House> way : ways) {
                bits |= 1 << way.get(i).rest;
            }
            return alike ? bits : ways.get(0).get(i).rest;
        }

        int fire(int z, int n, long d, int what) {
            if (z < 0 || z > 9999 || n < 1 || n > 999 || !isDay(d) || what < 0 || what > 2) { return BAD; }
            long day = fireDay(z, n, d);
            if (what == 0) { return rests(houses.get(cook), day) ? 1 : 0; }
            if (what == 1) { return houses.size() - resting(houses, day); }
            int count = 0;
            for (int k = z; k < z + 100; k++) {
                count += rests(houses.get(cook), fireDay(k % 10000, n, d)) ? 1 : 0;
            }
            return count;
        }

        long fireDay(int z, int n, long d) {
            java.math.BigInteger x = java.math.BigInteger.valueOf(7919).multiply(java.math.BigInteger.valueOf(z))
                .add(java.math.BigInteger.ONE);
            return d + x.multiply(x).mod(java.math.BigInteger.valueOf(65521)).longValue() % n;
        }

        int change(int i, int r) {
            if (!isHouse(i) || r < 0 || r >= length[houses.get(i).week]) { return BAD; }
            int was = houses.get(i).rest;
            houses.get(i).rest = r;
            return was;
        }

        int wed(int i, int j) {
            if (!isHouse(i) || !isHouse(j) || i == j) { return BAD; }
            int was = houses.get(j).rest;
            houses.get(j).week = houses.get(i).week;
            houses.get(j).rest = houses.get(i).rest;
            return was;
        }

        int settle() {
            int news = (int) houses.stream().filter(h -> h.isNew).count();
            List<House> best = fairest(ways(this::goesOn));
            if (news == 0 || best == null) { return NO; }
            houses = copy(best);
            houses.forEach(h -> h.isNew = false);
            return news;
        }

        int keep() {
            if (pages.size() == 2) { return FULL; }
            pages.add(new Page(copy(houses), new ArrayList<>(sights)));
            return pages.size();
        }

        int back() {
            if (pages.isEmpty()) { return NO; }
            Page page = pages.remove(pages.size() - 1);
            houses = page.houses;
            sights = page.sights;
            return pages.size();
        }

        int count(int what) {
            if (what < 0 || what > 6) { return BAD; }
            int news = (int) houses.stream().filter(h -> h.isNew).count();
            return new int[] {houses.size(), works.size(), text.length(), news, sights.size(), pages.size(), period()}
                [what];
        }
    }

    private static final Random draw = new Random(20261118);
    private static int wrong = 0;
    private static int calls = 0;
    private static OwnSunday x;
    private static Model model;
    private static List<String> log;

    private static void due(String call, long got, long want) {
        calls++;
        log.add(call + " = " + want);
        if (got != want) {
            wrong++;
            if (wrong <= 5) {
                System.out.println("a drawn run: " + log);
                System.out.println(call + " answered " + got + ", due is " + want);
            }
        }
    }

    /** From low to high, now and then just beyond or far beyond. */
    private static int number(int low, int high) {
        int kind = draw.nextInt(40);
        if (kind == 0) { return low - 1; }
        if (kind == 1) { return high + 1; }
        if (kind == 2) { return draw.nextInt(); }
        return high < low ? low : low + draw.nextInt(high - low + 1);
    }

    private static long size(long low, long high) {
        switch (draw.nextInt(12)) {
            case 0: return low;
            case 1: return high;
            case 2: return draw.nextBoolean() ? low - 1 : high + 1;
            case 3: return low + (draw.nextLong() >>> 1) % (high - low);
            case 4: return draw.nextInt(8) == 0 ? draw.nextLong() : high - draw.nextInt(200);
            default: return low + draw.nextInt(400);
        }
    }

    private static String item(int houses) {
        switch (draw.nextInt(12)) {
            case 0: return "w" + number(2, 12) + "," + number(2, 12) + ";";
            case 1: return "n" + number(0, houses - 1) + ";";
            case 2: return "c" + number(0, houses - 1) + ";";
            case 3: case 4: return "m" + number(0, 4) + "," + number(1, 3) + "," + number(1, 3) + ";";
            case 5: return String.format("m%02d,%02d,%02d;", draw.nextInt(6), draw.nextInt(11), draw.nextInt(11));
            default: return "h" + number(0, 1) + "," + number(0, 6) + "," + number(0, 31) + "," + number(0, 3) + ";";
        }
    }

    /** A text of drawn items, mostly one that can be laid. */
    private static String town() {
        StringBuilder s = new StringBuilder();
        int a = 2 + draw.nextInt(11);
        int b = draw.nextInt(3) == 0 ? a : 2 + draw.nextInt(11);
        s.append("w").append(a).append(",").append(b).append(";");
        int houses = 1 + draw.nextInt(10);
        int news = draw.nextInt(4);
        for (int i = 0; i < houses; i++) {
            int k = draw.nextInt(2);
            int r = draw.nextInt(50) == 0 ? draw.nextInt(16) : draw.nextInt(k == 0 ? a : b);
            int skills = draw.nextInt(32) | (draw.nextBoolean() ? 5 : 0);
            s.append("h" + k + "," + r + "," + skills + "," + draw.nextInt(4) + ";");
            if (news > 0 && draw.nextInt(3) == 0) {
                s.append("n" + i + ";");
                news--;
            }
        }
        for (int w = draw.nextInt(7); w > 0; w--) {
            int need = 1 + draw.nextInt(draw.nextBoolean() ? 2 : Math.max(1, houses * 2 / 3));
            s.append("m" + draw.nextInt(5) + "," + Math.min(9, need) + "," + (1 + draw.nextInt(3)) + ";");
        }
        if (draw.nextInt(2) == 0) { s.append("c" + draw.nextInt(houses) + ";"); }
        for (int k = draw.nextInt(20) == 0 ? 6 : 0; k > 0; k--) { s.append(item(houses)); }
        if (draw.nextInt(6) == 0) {
            int at = draw.nextInt(s.length());
            switch (draw.nextInt(3)) {
                case 0: s.deleteCharAt(at); break;
                case 1: s.insert(at, "0,;123whnmc9".charAt(draw.nextInt(12))); break;
                default: s.setCharAt(at, (char) draw.nextInt(256));
            }
        }
        return s.length() > 400 ? s.substring(0, 400) : s.toString();
    }

    private static void write(int n, long v) {
        due("write(" + n + ", " + v + ")", x.write(n, v), model.write(n, v));
    }

    private static void lay(String text) {
        due("wipe()", x.wipe(), model.wipe());
        byte[] bytes = text.getBytes(StandardCharsets.ISO_8859_1);
        for (int at = 0; at < bytes.length; ) {
            int n = Math.min(bytes.length - at, 1 + draw.nextInt(8));
            long v = draw.nextLong();
            for (int k = 0; k < n; k++) {
                v = v << 8 | bytes[at + k] & 0xff;
            }
            write(n, v);
            at += n;
        }
        due("fault() of " + text, x.fault(), model.tell().fault);
        due("lay()", x.lay(), model.lay());
    }

    private static void call() {
        int last = model.houses.size() - 1;
        int work = model.works.size() - 1;
        int i = number(0, last);
        int j = number(0, last);
        int w = number(0, work);
        int set = number(1, (1 << model.houses.size()) - 1);
        long d = size(0, LAST);
        int what;
        switch (draw.nextInt(31)) {
            case 0: what = number(0, 4); due("house(" + i + ", " + what + ")", x.house(i, what), model.house(i, what)); break;
            case 1: due("up(" + d + ")", x.up(d), model.up(d)); break;
            case 2: what = number(0, 4); due("hands(" + what + ", " + d + ")", x.hands(what, d), model.handsAsked(what, d)); break;
            case 3: what = number(0, 1); due("judge(" + d + ", " + what + ")", x.judge(d, what), model.judge(d, what)); break;
            case 4: due("still(" + w + ")", x.still(w), model.still(w)); break;
            case 5: due("together(" + set + ", " + d + ")", x.together(set, d), model.together(set, d)); break;
            case 6: long n = size(0, TRILLION); due("often(" + set + ", " + d + ", " + n + ")", x.often(set, d, n), model.often(set, d, n)); break;
            case 7: due("longest(" + set + ")", x.longest(set), model.longest(set)); break;
            case 8: what = number(0, 3); due("street(" + what + ", " + d + ")", x.street(what, d), model.street(what, d)); break;
            case 9: what = number(0, 1); due("same(" + what + ")", x.same(what), model.same(what)); break;
            case 10: what = number(0, 4); long h = size(1, TRILLION); due("harvest(" + what + ", " + d + ", " + h + ")", x.harvest(what, d, h), model.harvest(what, d, h)); break;
            case 11: case 12: what = number(-2, last); due("settled(" + what + ")", x.settled(what), model.settled(what)); break;
            case 13: yearsCalls(w); break;
            case 14: what = number(0, 1); due("wedding(" + i + ", " + j + ", " + what + ")", x.wedding(i, j, what), model.wedding(i, j, what)); break;
            case 15: case 16: case 17:
                // Mostly what is so by some way, so that ways are left.
                boolean went = draw.nextInt(5) == 0 || !model.isWork(w) || !model.isDay(d) || !model.isShort(model.houses, w, d);
                due("seen(" + d + ", " + w + ", " + went + ")", x.seen(d, w, went), model.seen(d, w, went));
                break;
            case 18: if (draw.nextInt(4) == 0) { due("forget()", x.forget(), model.forget()); } break;
            case 19: case 20: what = number(-1, last); boolean alike = draw.nextBoolean(); due("fits(" + what + ", " + alike + ")", x.fits(what, alike), model.fits(what, alike)); break;
            case 21: case 22: int z = number(0, 9999); int days = number(1, 999); what = number(0, 2); due("fire(" + z + ", " + days + ", " + d + ", " + what + ")", x.fire(z, days, d, what), model.fire(z, days, d, what)); break;
            case 23: what = number(0, 11); due("change(" + i + ", " + what + ")", x.change(i, what), model.change(i, what)); break;
            case 24: due("wed(" + i + ", " + j + ")", x.wed(i, j), model.wed(i, j)); break;
            case 25: due("settle()", x.settle(), model.settle()); break;
            case 26: due("keep()", x.keep(), model.keep()); break;
            case 27: due("back()", x.back(), model.back()); break;
            case 28: what = number(0, 6); due("count(" + what + ")", x.count(what), model.count(what)); break;
            case 29: if (draw.nextInt(4) == 0) { write(number(1, 8), draw.nextLong()); } break;
            default: due("fault()", x.fault(), model.tell().fault);
        }
    }

    private static void yearsCalls(int w) {
        if (!model.isWork(w)) {
            due("years(" + w + ", 0)", x.years(w, 0), BAD);
            return;
        }
        int[] all = model.changes(w);
        for (int what = 0; what <= 4; what++) {
            due("years(" + w + ", " + what + ")", x.years(w, what), all[what]);
        }
        due("years(" + w + ", 5)", x.years(w, 5), BAD);
        due("years(" + w + ", -1)", x.years(w, -1), BAD);
    }

    private static void everything() {
        for (int what = 0; what <= 6; what++) {
            due("count(" + what + ")", x.count(what), model.count(what));
        }
        for (int i = 0; i < 10; i++) {
            for (int what = 0; what <= 4; what++) {
                due("house(" + i + ", " + what + ")", x.house(i, what), model.house(i, what));
            }
        }
    }

    public static void main(String[] args) {
        int runs = args.length > 0 ? Integer.parseInt(args[0]) : 400;
        for (int run = 0; run < runs; run++) {
            x = new OwnSunday();
            model = new Model();
            log = new ArrayList<>();
            for (int towns = 0; towns < 3; towns++) {
                if (towns > 0 || run % 5 > 0) { lay(town()); }
                for (int k = 0; k < 70; k++) { call(); }
                everything();
            }
        }
        System.out.println(calls + " calls, " + wrong + " answers are not as due");
        if (wrong != 0) { System.exit(1); }
    }
}
