import java.util.Arrays;

/** A town of houses of which each rests on a day of its own; the document tells what each call answers. */
public final class OwnSunday {
    public static final int BAD = -1, NO = -2, FULL = -3, NONE = -4;

    private static final int MOST_BYTES = 400;
    private static final int MOST_HOUSES = 10;
    private static final int MOST_NEW = 3;
    private static final int MOST_WORKS = 6;
    private static final int MOST_SEEN = 20;
    private static final int MOST_KEPT = 2;
    private static final int SKILLS = 5;
    private static final int STREETS = 4;
    private static final int WEEKS = 2;
    private static final int SHORTEST_WEEK = 2;
    private static final int LONGEST_WEEK = 12;
    private static final int ALL_HOUSES = (1 << MOST_HOUSES) - 1;
    private static final int JUDGED_DAYS = 1000;
    private static final int DRAWS = 10000;
    private static final int HUNDRED = 100;
    private static final int MOST_FIRE_DAYS = 999;
    private static final long LAST_DAY = 1000000000000000L;
    private static final long LIFETIME = 1000000000000L;

    private final byte[] text = new byte[MOST_BYTES];
    private int size;
    private final Reader reader = new Reader();
    private final Town draftTown = new Town();
    private final Book draftBook = new Book();
    private final Town town = new Town();
    private final Book book = new Book();
    private final Book[] kept = new Book[MOST_KEPT];
    private int keptCount;
    private final Rota rota = new Rota();
    private final Ways ways = new Ways();
    /** How many must change, the lower house, its rest, the other house, its rest. */
    private final int[] changes = new int[5];

    public OwnSunday() {
        for (int k = 0; k < MOST_KEPT; k++) {
            kept[k] = new Book();
        }
        town.begin();
        book.begin();
        book.settleAt(town.houses, 0, 6);
        town.addHouse(1, 0);
    }

    // ---- towns

    public int write(int n, long v) {
        if (n < 1 || n > 8) {
            return BAD;
        }
        if (size + n > MOST_BYTES) {
            return FULL;
        }
        for (int left = n - 1; left >= 0; left--) {
            text[size] = (byte) (v >>> (8 * left));
            size++;
        }
        return size;
    }

    public int wipe() {
        int was = size;
        size = 0;
        return was;
    }

    public int fault() {
        return reader.read(text, size, draftTown, draftBook);
    }

    public int lay() {
        if (reader.read(text, size, draftTown, draftBook) != NONE || draftTown.houses == 0) {
            return NO;
        }
        // Read once more, now that it is sure that nothing of the old town must stay.
        reader.read(text, size, town, book);
        keptCount = 0;
        return town.houses;
    }

    public int house(int i, int what) {
        if (!isHouse(i)) {
            return BAD;
        }
        switch (what) {
            case 0: return book.week[i];
            case 1: return book.rest[i];
            case 2: return town.skills[i];
            case 3: return town.street[i];
            case 4: return book.isNew(i) ? 1 : 0;
            default: return BAD;
        }
    }

    public int up(long d) {
        if (!isDay(d)) {
            return BAD;
        }
        fillRota();
        return upOn(d);
    }

    public int hands(int s, long d) {
        if (!isSkill(s) || !isDay(d)) {
            return BAD;
        }
        fillRota();
        return handsOn(s, d);
    }

    // ---- days

    public long judge(long d, int what) {
        if (!isDay(d) || what < 0 || what > 1) {
            return BAD;
        }
        fillRota();
        // All days come again after a period.
        int days = Math.min(JUDGED_DAYS, town.period());
        for (int k = 0; k < days; k++) {
            int work = firstShort(rota.restingOn(d + k));
            if (work != NONE) {
                return what == 0 ? d + k : work;
            }
        }
        return NONE;
    }

    public int still(int w) {
        if (!isWork(w)) {
            return BAD;
        }
        fillRota();
        int period = town.period();
        int shortOnEnd = 0;
        int count = 0;
        for (int day = 0; day < 2 * period; day++) {
            shortOnEnd = town.isShort(w, rota.restingOn(day)) ? shortOnEnd + 1 : 0;
            if (day >= period && shortOnEnd >= town.workDays[w]) {
                count++;
            }
        }
        return count;
    }

    public long together(int set, long d) {
        if (!isSet(set) || !isDay(d)) {
            return BAD;
        }
        fillRota();
        int period = town.period();
        for (int k = 0; k < period; k++) {
            if (allUp(set, d + k)) {
                return d + k;
            }
        }
        return NONE;
    }

    public long often(int set, long d, long n) {
        if (!isSet(set) || !isDay(d) || n < 0 || n > LIFETIME) {
            return BAD;
        }
        fillRota();
        int period = town.period();
        long whole = n / period;
        int rest = (int) (n - whole * period);
        return whole * daysAllUp(set, d, period) + daysAllUp(set, d, rest);
    }

    public int longest(int set) {
        if (!isSet(set)) {
            return BAD;
        }
        fillRota();
        int days = 2 * town.period();
        int wait = 0;
        int most = 0;
        for (int day = 0; day < days; day++) {
            wait = allUp(set, day) ? 0 : wait + 1;
            most = Math.max(most, wait);
        }
        return most == days ? NONE : most;
    }

    public long street(int t, long d) {
        if (t < 0 || t >= STREETS || !isDay(d)) {
            return BAD;
        }
        int set = town.housesOfStreet(t);
        if (set == 0) {
            return NONE;
        }
        fillRota();
        int period = town.period();
        for (int k = 0; k < period; k++) {
            if ((rota.restingOn(d + k) & set) == set) {
                return d + k;
            }
        }
        return NONE;
    }

    public int same(int what) {
        if (what < 0 || what > 1) {
            return BAD;
        }
        fillRota();
        int most = rota.mostResting(ALL_HOUSES);
        return what == 0 ? most : firstDayResting(most);
    }

    public long harvest(int s, long d, long h) {
        if (!isSkill(s) || !isDay(d) || h < 1 || h > LIFETIME) {
            return BAD;
        }
        fillRota();
        int period = town.period();
        long inPeriod = 0;
        for (int k = 0; k < period; k++) {
            inPeriod += handsOn(s, d + k);
        }
        if (inPeriod < 1) {
            return NONE;
        }
        // Less one, so that the last days are gone through one by one and none is told in which nothing is left to do.
        long whole = (h - 1) / inPeriod;
        return whole * period + daysToDo(s, d, h - whole * inPeriod);
    }

    // ---- rests

    public int settled(int i) {
        if (i != -1 && i != -2 && !isNewHouse(i)) {
            return BAD;
        }
        goThroughSettled();
        if (i == -1) {
            return ways.found;
        }
        if (ways.found == 0) {
            return NONE;
        }
        return i == -2 ? ways.least : ways.chosenRest(i);
    }

    public int years(int w, int what) {
        if (!isWork(w) || what < 0 || what >= changes.length) {
            return BAD;
        }
        Arrays.fill(changes, NONE);
        fillRota();
        if (!everShort(w)) {
            changes[0] = 0;
        } else if (!findOneChange(w)) {
            findTwoChanges(w);
        }
        return changes[what];
    }

    public int wedding(int i, int j, int what) {
        if (!isHouse(i) || !isHouse(j) || i == j || what < 0 || what > 1) {
            return BAD;
        }
        int byFirst = shortDaysWed(i, j, i);
        int bySecond = shortDaysWed(i, j, j);
        if (what == 0) {
            return Math.min(byFirst, bySecond);
        }
        return bySecond < byFirst ? 1 : 0;
    }

    public int seen(long d, int w, boolean went) {
        if (!isDay(d) || !isWork(w)) {
            return BAD;
        }
        if (book.seenCount >= MOST_SEEN) {
            return FULL;
        }
        book.addSeen(d, w, went);
        return book.seenCount;
    }

    public int forget() {
        int was = book.seenCount;
        book.seenCount = 0;
        return was;
    }

    public int fits(int i, boolean alike) {
        if (i != -1 && !isNewHouse(i)) {
            return BAD;
        }
        goThroughFits();
        if (i == -1) {
            return ways.found;
        }
        if (ways.found == 0) {
            return NONE;
        }
        return alike ? ways.restsOfSome(i) : ways.chosenRest(i);
    }

    // ---- fires, changes

    public int fire(int z, int n, long d, int what) {
        if (z < 0 || z >= DRAWS || n < 1 || n > MOST_FIRE_DAYS || !isDay(d) || what < 0 || what > 2) {
            return BAD;
        }
        fillRota();
        if (what == 0) {
            return cookRests(dayOfFire(z, n, d)) ? 1 : 0;
        }
        if (what == 1) {
            return Integer.bitCount(upOn(dayOfFire(z, n, d)));
        }
        int count = 0;
        for (int k = 0; k < HUNDRED; k++) {
            if (cookRests(dayOfFire((z + k) % DRAWS, n, d))) {
                count++;
            }
        }
        return count;
    }

    public int change(int i, int r) {
        if (!isHouse(i) || r < 0 || r >= weekLength(i)) {
            return BAD;
        }
        int was = book.rest[i];
        book.rest[i] = r;
        return was;
    }

    public int wed(int i, int j) {
        if (!isHouse(i) || !isHouse(j) || i == j) {
            return BAD;
        }
        int was = book.rest[j];
        book.settleAt(j, book.week[i], book.rest[i]);
        return was;
    }

    public int settle() {
        if (book.newHouses == 0) {
            return NO;
        }
        goThroughSettled();
        if (ways.found == 0) {
            return NO;
        }
        for (int k = 0; k < ways.newcomers; k++) {
            book.rest[ways.newcomer[k]] = ways.chosen[k];
        }
        book.newHouses = 0;
        return ways.newcomers;
    }

    public int keep() {
        if (keptCount >= MOST_KEPT) {
            return FULL;
        }
        kept[keptCount].copyFrom(book);
        keptCount++;
        return keptCount;
    }

    public int back() {
        if (keptCount < 1) {
            return NO;
        }
        keptCount--;
        book.copyFrom(kept[keptCount]);
        return keptCount;
    }

    public int count(int what) {
        switch (what) {
            case 0: return town.houses;
            case 1: return town.works;
            case 2: return size;
            case 3: return Integer.bitCount(book.newHouses);
            case 4: return book.seenCount;
            case 5: return keptCount;
            case 6: return town.period();
            default: return BAD;
        }
    }

    // ---- which numbers are told

    private boolean isHouse(int i) {
        return i >= 0 && i < town.houses;
    }

    private boolean isNewHouse(int i) {
        return isHouse(i) && book.isNew(i);
    }

    private boolean isWork(int w) {
        return w >= 0 && w < town.works;
    }

    private boolean isSet(int set) {
        return set > 0 && set < (1 << town.houses);
    }

    private static boolean isSkill(int s) {
        return s >= 0 && s < SKILLS;
    }

    private static boolean isDay(long d) {
        return d >= 0 && d <= LAST_DAY;
    }

    // ---- one day; the rota is filled ahead of these

    private void fillRota() {
        rota.fill(town, book, 0);
    }

    private int weekLength(int house) {
        return town.length[book.week[house]];
    }

    private int upOn(long d) {
        return ((1 << town.houses) - 1) & ~rota.restingOn(d);
    }

    private int handsOn(int s, long d) {
        return Integer.bitCount(town.skilled[s] & upOn(d));
    }

    private boolean allUp(int set, long d) {
        return (rota.restingOn(d) & set) == 0;
    }

    private boolean cookRests(long d) {
        return (rota.restingOn(d) & (1 << town.cook)) != 0;
    }

    private static long dayOfFire(int z, int n, long d) {
        long x = 7919L * z + 1;
        return d + ((x * x) % 65521) % Math.max(1, n);
    }

    /** The lowest work that is short when these rest, or NONE. */
    private int firstShort(int resting) {
        for (int w = 0; w < town.works; w++) {
            if (town.isShort(w, resting)) {
                return w;
            }
        }
        return NONE;
    }

    // ---- many days

    private int daysAllUp(int set, long d, int days) {
        int count = 0;
        for (int k = 0; k < days; k++) {
            if (allUp(set, d + k)) {
                count++;
            }
        }
        return count;
    }

    private int firstDayResting(int most) {
        int period = town.period();
        for (int day = 0; day < period; day++) {
            if (Integer.bitCount(rota.restingOn(day)) == most) {
                return day;
            }
        }
        return NONE;
    }

    /** Of no more than is done in a period. */
    private int daysToDo(int s, long d, long amount) {
        int period = town.period();
        long left = amount;
        int days = 0;
        while (days < period && left > 0) {
            left -= handsOn(s, d + days);
            days++;
        }
        return days;
    }

    private boolean everShort(int w) {
        int skilled = town.skilled[town.workSkill[w]];
        return Integer.bitCount(skilled) - rota.mostResting(skilled) < town.workNeed[w];
    }

    private boolean anyEverShort() {
        for (int w = 0; w < town.works; w++) {
            if (everShort(w)) {
                return true;
            }
        }
        return false;
    }

    /** Both have the day of the house by. */
    private int shortDaysWed(int i, int j, int by) {
        rota.fill(town, book, (1 << i) | (1 << j));
        rota.put(i, book.week[by], book.rest[by]);
        rota.put(j, book.week[by], book.rest[by]);
        int period = town.period();
        int count = 0;
        for (int day = 0; day < period; day++) {
            if (firstShort(rota.restingOn(day)) != NONE) {
                count++;
            }
        }
        return count;
    }

    // ---- ways to rest

    private void goThroughSettled() {
        ways.begin(town, book);
        rota.fill(town, book, book.newHouses);
        for (int way = 0; way < ways.total; way++) {
            ways.putInto(rota);
            if (!anyEverShort()) {
                ways.find(rota.mostResting(ALL_HOUSES));
            }
            ways.liftFrom(rota);
            ways.advance();
        }
    }

    private void goThroughFits() {
        ways.begin(town, book);
        rota.fill(town, book, book.newHouses);
        for (int way = 0; way < ways.total; way++) {
            ways.putInto(rota);
            if (allSeenWasSo()) {
                // None is fairer than another here, so the first one stays chosen.
                ways.find(0);
            }
            ways.liftFrom(rota);
            ways.advance();
        }
    }

    private boolean allSeenWasSo() {
        for (int k = 0; k < book.seenCount; k++) {
            boolean goesOn = !town.isShort(book.seenWork[k], rota.restingOn(book.seenDay[k]));
            if (goesOn != book.seenWent(k)) {
                return false;
            }
        }
        return true;
    }

    // ---- other rests for a work

    private boolean findOneChange(int w) {
        for (int i = 0; i < town.houses; i++) {
            int r = helpfulRest(w, i);
            if (r != NONE) {
                changes[0] = 1;
                changes[1] = i;
                changes[2] = r;
                return true;
            }
        }
        return false;
    }

    private void findTwoChanges(int w) {
        for (int i = 0; i < town.houses; i++) {
            // If one without the skill changed, the other one's change would be enough by itself.
            if (!hasSkillOf(i, w)) {
                continue;
            }
            int week = book.week[i];
            rota.lift(i, week, book.rest[i]);
            for (int r = 0; r < weekLength(i); r++) {
                rota.put(i, week, r);
                if (findSecondChange(w, i, r)) {
                    return;
                }
                rota.lift(i, week, r);
            }
            rota.put(i, week, book.rest[i]);
        }
    }

    private boolean findSecondChange(int w, int first, int restOfFirst) {
        for (int j = first + 1; j < town.houses; j++) {
            int r = helpfulRest(w, j);
            if (r != NONE) {
                changes[0] = 2;
                changes[1] = first;
                changes[2] = restOfFirst;
                changes[3] = j;
                changes[4] = r;
                return true;
            }
        }
        return false;
    }

    private boolean hasSkillOf(int house, int w) {
        return (town.skilled[town.workSkill[w]] & (1 << house)) != 0;
    }

    /** The first rest of a house by which the work is never short, or NONE; the rota stays as it is. */
    private int helpfulRest(int w, int house) {
        if (!hasSkillOf(house, w)) {
            return NONE;
        }
        int week = book.week[house];
        int length = weekLength(house);
        int found = NONE;
        rota.lift(house, week, book.rest[house]);
        for (int r = 0; r < length && found == NONE; r++) {
            rota.put(house, week, r);
            if (!everShort(w)) {
                found = r;
            }
            rota.lift(house, week, r);
        }
        rota.put(house, week, book.rest[house]);
        return found;
    }

    /** What a text tells and no later call changes. */
    private static final class Town {
        final int[] length = new int[WEEKS];
        int houses;
        final int[] skills = new int[MOST_HOUSES];
        final int[] street = new int[MOST_HOUSES];
        /** By skill the houses that have it, as bits. */
        final int[] skilled = new int[SKILLS];
        int works;
        final int[] workSkill = new int[MOST_WORKS];
        final int[] workNeed = new int[MOST_WORKS];
        final int[] workDays = new int[MOST_WORKS];
        int cook;

        void begin() {
            length[0] = 7;
            length[1] = 9;
            houses = 0;
            Arrays.fill(skilled, 0);
            works = 0;
            cook = 0;
        }

        void addHouse(int itsSkills, int itsStreet) {
            if (houses >= MOST_HOUSES) {
                return;
            }
            skills[houses] = itsSkills;
            street[houses] = itsStreet;
            for (int s = 0; s < SKILLS; s++) {
                if ((itsSkills & (1 << s)) != 0) {
                    skilled[s] |= 1 << houses;
                }
            }
            houses++;
        }

        void addWork(int skill, int need, int days) {
            if (works >= MOST_WORKS) {
                return;
            }
            workSkill[works] = skill;
            workNeed[works] = need;
            workDays[works] = days;
            works++;
        }

        int period() {
            int divisor = Math.max(1, length[1]);
            int days = length[0];
            for (int k = 1; k < LONGEST_WEEK && days % divisor != 0; k++) {
                days += length[0];
            }
            return Math.max(1, days);
        }

        int housesOfStreet(int t) {
            int set = 0;
            for (int i = 0; i < houses; i++) {
                if (street[i] == t) {
                    set |= 1 << i;
                }
            }
            return set;
        }

        boolean isShort(int w, int resting) {
            return Integer.bitCount(skilled[workSkill[w]] & ~resting) < workNeed[w];
        }
    }

    /** What is kept: weeks and rests, who is NEW, what was SEEN. */
    private static final class Book {
        final int[] week = new int[MOST_HOUSES];
        final int[] rest = new int[MOST_HOUSES];
        int newHouses;
        int seenCount;
        final long[] seenDay = new long[MOST_SEEN];
        final int[] seenWork = new int[MOST_SEEN];
        private int seenWentBits;

        void begin() {
            newHouses = 0;
            seenCount = 0;
        }

        void settleAt(int house, int itsWeek, int itsRest) {
            week[house] = itsWeek;
            rest[house] = itsRest;
        }

        boolean isNew(int house) {
            return (newHouses & (1 << house)) != 0;
        }

        boolean seenWent(int k) {
            return (seenWentBits & (1 << k)) != 0;
        }

        void addSeen(long d, int w, boolean went) {
            if (seenCount >= MOST_SEEN) {
                return;
            }
            seenDay[seenCount] = d;
            seenWork[seenCount] = w;
            int bit = 1 << seenCount;
            seenWentBits = went ? seenWentBits | bit : seenWentBits & ~bit;
            seenCount++;
        }

        void copyFrom(Book other) {
            System.arraycopy(other.week, 0, week, 0, MOST_HOUSES);
            System.arraycopy(other.rest, 0, rest, 0, MOST_HOUSES);
            newHouses = other.newHouses;
            seenCount = other.seenCount;
            System.arraycopy(other.seenDay, 0, seenDay, 0, MOST_SEEN);
            System.arraycopy(other.seenWork, 0, seenWork, 0, MOST_SEEN);
            seenWentBits = other.seenWentBits;
        }
    }

    /** Reads a text into a town and a book. */
    private static final class Reader {
        private final int[] number = new int[4];
        private final int[] placeOfHouse = new int[MOST_HOUSES];

        /** The fault, or NONE: then all that was told stands in the town and the book. */
        int read(byte[] text, int size, Town town, Book book) {
            town.begin();
            book.begin();
            int at = 0;
            for (int items = 0; items < size && at < size; items++) {
                int behind = readNumbers(text, size, at);
                if (behind == NONE || !take(text[at], at, town, book)) {
                    return at;
                }
                at = behind;
            }
            return placeOfWrongRest(town, book);
        }

        /** The place behind the item, or NONE if it is not in the form of one. */
        private int readNumbers(byte[] text, int size, int at) {
            int wanted = numbersOf(text[at]);
            if (wanted == 0) {
                return NONE;
            }
            int place = at + 1;
            for (int k = 0; k < wanted; k++) {
                if (!isFigure(text, size, place)) {
                    return NONE;
                }
                number[k] = text[place] - '0';
                place++;
                if (isFigure(text, size, place)) {
                    number[k] = 10 * number[k] + text[place] - '0';
                    place++;
                }
                char mark = k + 1 < wanted ? ',' : ';';
                if (place >= size || text[place] != mark) {
                    return NONE;
                }
                place++;
            }
            return place;
        }

        private static int numbersOf(int letter) {
            switch (letter) {
                case 'w': return 2;
                case 'h': return 4;
                case 'm': return 3;
                case 'n':
                case 'c': return 1;
                default: return 0;
            }
        }

        private static boolean isFigure(byte[] text, int size, int place) {
            return place < size && text[place] >= '0' && text[place] <= '9';
        }

        /** Whether the item whose numbers were read is as it must be; it stands in the town and the book then. */
        private boolean take(int letter, int at, Town town, Book book) {
            switch (letter) {
                case 'w': return takeWeeks(town);
                case 'h': return takeHouse(at, town, book);
                case 'n': return takeNew(town, book);
                case 'm': return takeWork(town);
                case 'c': return takeCook(town);
                default: return false;
            }
        }

        private boolean takeWeeks(Town town) {
            if (!isWeekLength(number[0]) || !isWeekLength(number[1])) {
                return false;
            }
            town.length[0] = number[0];
            town.length[1] = number[1];
            return true;
        }

        private static boolean isWeekLength(int days) {
            return days >= SHORTEST_WEEK && days <= LONGEST_WEEK;
        }

        /** Its rest is looked at in the end, when the weeks are known. */
        private boolean takeHouse(int at, Town town, Book book) {
            if (town.houses >= MOST_HOUSES || number[0] >= WEEKS
                    || number[2] >= (1 << SKILLS) || number[3] >= STREETS) {
                return false;
            }
            placeOfHouse[town.houses] = at;
            book.settleAt(town.houses, number[0], number[1]);
            town.addHouse(number[2], number[3]);
            return true;
        }

        private boolean takeNew(Town town, Book book) {
            int house = number[0];
            if (house >= town.houses || Integer.bitCount(book.newHouses) >= MOST_NEW) {
                return false;
            }
            // Rising: no bit of this house or of one above it is there.
            if ((book.newHouses >>> house) != 0) {
                return false;
            }
            book.newHouses |= 1 << house;
            return true;
        }

        private boolean takeWork(Town town) {
            if (town.works >= MOST_WORKS || number[0] >= SKILLS
                    || number[1] < 1 || number[1] > 9 || number[2] < 1 || number[2] > 9) {
                return false;
            }
            town.addWork(number[0], number[1], number[2]);
            return true;
        }

        private boolean takeCook(Town town) {
            if (number[0] >= town.houses) {
                return false;
            }
            town.cook = number[0];
            return true;
        }

        private int placeOfWrongRest(Town town, Book book) {
            for (int i = 0; i < town.houses; i++) {
                if (book.rest[i] >= town.length[book.week[i]]) {
                    return placeOfHouse[i];
                }
            }
            return NONE;
        }
    }

    /** By week and day of it the houses that rest, as bits: so a day is told without asking each house. */
    private static final class Rota {
        private final int[] length = new int[WEEKS];
        private final int[][] resting = new int[WEEKS][LONGEST_WEEK];
        /** The greatest number that divides both weeks: days of them meet if they are alike by it. */
        private int common = 1;

        /** All houses but those of a set. */
        void fill(Town town, Book book, int without) {
            for (int week = 0; week < WEEKS; week++) {
                length[week] = town.length[week];
                Arrays.fill(resting[week], 0);
            }
            common = Math.max(1, length[0] * length[1] / Math.max(1, town.period()));
            for (int i = 0; i < town.houses; i++) {
                if ((without & (1 << i)) == 0) {
                    put(i, book.week[i], book.rest[i]);
                }
            }
        }

        void put(int house, int week, int day) {
            resting[week][day] |= 1 << house;
        }

        void lift(int house, int week, int day) {
            resting[week][day] &= ~(1 << house);
        }

        int restingOn(long d) {
            return resting[0][(int) (d % Math.max(1, length[0]))]
                    | resting[1][(int) (d % Math.max(1, length[1]))];
        }

        /** The most houses of a set that rest on one day, whichever day. */
        int mostResting(int set) {
            int most = 0;
            for (int first = 0; first < common; first++) {
                most = Math.max(most, mostOfWeek(0, first, set) + mostOfWeek(1, first, set));
            }
            return most;
        }

        private int mostOfWeek(int week, int first, int set) {
            int step = Math.max(1, common);
            int most = 0;
            for (int day = first; day < length[week]; day += step) {
                most = Math.max(most, Integer.bitCount(resting[week][day] & set));
            }
            return most;
        }
    }

    /** All ways to give the NEW houses rests, one behind the other, the lowest one's rest rising last. */
    private static final class Ways {
        int newcomers;
        final int[] newcomer = new int[MOST_NEW];
        private final int[] week = new int[MOST_NEW];
        private final int[] length = new int[MOST_NEW];
        private final int[] rest = new int[MOST_NEW];
        int total;

        int found;
        int least;
        final int[] chosen = new int[MOST_NEW];
        private final int[] some = new int[MOST_NEW];

        void begin(Town town, Book book) {
            newcomers = 0;
            total = 1;
            found = 0;
            least = 0;
            for (int i = 0; i < town.houses && newcomers < MOST_NEW; i++) {
                if (book.isNew(i)) {
                    newcomer[newcomers] = i;
                    week[newcomers] = book.week[i];
                    length[newcomers] = town.length[book.week[i]];
                    rest[newcomers] = 0;
                    some[newcomers] = 0;
                    total *= length[newcomers];
                    newcomers++;
                }
            }
        }

        void advance() {
            for (int k = newcomers - 1; k >= 0; k--) {
                rest[k]++;
                if (rest[k] < length[k]) {
                    return;
                }
                rest[k] = 0;
            }
        }

        void putInto(Rota rota) {
            for (int k = 0; k < newcomers; k++) {
                rota.put(newcomer[k], week[k], rest[k]);
            }
        }

        void liftFrom(Rota rota) {
            for (int k = 0; k < newcomers; k++) {
                rota.lift(newcomer[k], week[k], rest[k]);
            }
        }

        /** This way is one of those sought; the first of the least weight is chosen. */
        void find(int weight) {
            if (found == 0 || weight < least) {
                least = weight;
                System.arraycopy(rest, 0, chosen, 0, MOST_NEW);
            }
            found++;
            for (int k = 0; k < newcomers; k++) {
                some[k] |= 1 << rest[k];
            }
        }

        int chosenRest(int house) {
            return ofHouse(chosen, house);
        }

        int restsOfSome(int house) {
            return ofHouse(some, house);
        }

        private int ofHouse(int[] row, int house) {
            for (int k = 0; k < newcomers; k++) {
                if (newcomer[k] == house) {
                    return row[k];
                }
            }
            return NONE;
        }
    }
}
