/**
 * The harbingers' office of a court that travels: what it eats by its ordinances, where it lodges,
 * by which route it goes on, what its days took of each place, and which pleas are heard next.
 */
public final class CourtProgress {
    public static final int NONE = -1;

    private static final int NONE_YET = -2;
    private static final int DAYS = 200;
    private static final int MAX_HOUSEHOLDS = 8;
    private static final int MAX_PLACES = 9;
    private static final int MAX_ROOMS = 10;
    private static final int MAX_FEASTS = 8;
    private static final int MAX_STORE = 1000000;
    private static final int MAX_NEED = 1000000;
    private static final int LONGEST_DAY = 16;
    private static final int LONGEST_ROUTE = 20;

    private static final int FINE = 0;
    private static final int NO_SUCH = 1;
    private static final int BAD_NUMBER = 2;
    private static final int NO_ROOM = 3;
    private static final int FAULTY = 4;
    private static final int NO_PASSAGE = 5;
    private static final int NO_PLAN = 6;

    private final Households court;
    private final Places land;
    private final Calendar calendar;
    private final Statutes statutes;
    private final Tape tape;
    private final Scribe scribe;
    private final Lodger lodger;
    private final Router router;
    private final Pleas pleas;
    private final int[] lodgedIn = new int[MAX_HOUSEHOLDS];
    private final int[] placeOn = new int[DAYS];
    private final int[] lackedOn = new int[DAYS];
    private int today;
    private int here;
    private int refusal;

    public CourtProgress() {
        court = new Households();
        land = new Places();
        calendar = new Calendar();
        statutes = new Statutes(court, calendar);
        tape = new Tape();
        scribe = new Scribe(tape, statutes);
        lodger = new Lodger(court, land);
        router = new Router(land, calendar, statutes);
        pleas = new Pleas();
        for (int h = 0; h < MAX_HOUSEHOLDS; h++) {
            lodgedIn[h] = NONE;
        }
        today = 0;
        here = NONE;
        refusal = FINE;
    }

    public int household(int rank, int mouths, int horses) {
        if (!isWithin(rank, 1, 9) || !isWithin(mouths, 1, 99) || !isWithin(horses, 0, 99)) {
            return refuse(BAD_NUMBER);
        }
        if (court.size >= MAX_HOUSEHOLDS) {
            return refuse(NO_ROOM);
        }
        return grant(court.add(rank, mouths, horses));
    }

    public boolean bar(int one, int other, boolean on) {
        if (!court.has(one) || !court.has(other) || one == other) {
            return deny(NO_SUCH);
        }
        court.setBar(one, other, on);
        return allow();
    }

    public int place(int store, int owes, int stalls) {
        if (!isWithin(store, 0, MAX_STORE) || !isWithin(owes, 0, MAX_STORE) || !isWithin(stalls, 0, 999)) {
            return refuse(BAD_NUMBER);
        }
        if (land.size >= MAX_PLACES) {
            return refuse(NO_ROOM);
        }
        int added = land.add(store, owes, stalls);
        if (here == NONE) {
            here = added;
        }
        return grant(added);
    }

    public int room(int place, int worth, int house, int walk) {
        if (!land.has(place)) {
            return refuse(NO_SUCH);
        }
        if (!isWithin(worth, 1, 9) || !isWithin(house, 0, 3) || !isWithin(walk, 0, 99)) {
            return refuse(BAD_NUMBER);
        }
        if (land.rooms[place] >= MAX_ROOMS) {
            return refuse(NO_ROOM);
        }
        return grant(land.addRoom(place, worth, house, walk));
    }

    public boolean way(int one, int other, int hours) {
        if (!land.has(one) || !land.has(other) || one == other) {
            return deny(NO_SUCH);
        }
        if (!isWithin(hours, 0, 48)) {
            return deny(BAD_NUMBER);
        }
        land.setWay(one, other, hours);
        return allow();
    }

    public boolean mud(int from, int to, int deep) {
        if (!isDay(from) || !isDay(to) || from > to || !isWithin(deep, 0, 4)) {
            return deny(BAD_NUMBER);
        }
        calendar.setMud(from, to, deep);
        return allow();
    }

    public boolean feast(int day, int place) {
        if (place != NONE && !land.has(place)) {
            return deny(NO_SUCH);
        }
        if (!isDay(day)) {
            return deny(BAD_NUMBER);
        }
        if (place != NONE && !calendar.hasRoomForFeast(day)) {
            return deny(NO_ROOM);
        }
        calendar.setFeast(day, place);
        return allow();
    }

    public boolean bring(int place, int store, int owes) {
        if (!land.has(place)) {
            return deny(NO_SUCH);
        }
        long newStore = (long) land.store[place] + store;
        long newOwes = (long) land.owes[place] + owes;
        if (newStore < 0 || newStore > MAX_STORE || newOwes < 0 || newOwes > MAX_STORE) {
            return deny(BAD_NUMBER);
        }
        land.store[place] = (int) newStore;
        land.owes[place] = (int) newOwes;
        return allow();
    }

    // ---- ordinances

    // No TROUBLE is named for feed, so it leaves the latest one as it was.
    public int feed(int a, int b, int c, int d, int e) {
        if (!tape.hasRoom()) {
            return NONE;
        }
        tape.append(a);
        tape.append(b);
        tape.append(c);
        tape.append(d);
        tape.append(e);
        return tape.size;
    }

    public int ordinance(int day, int n) {
        if (!isDay(day) || !isWithin(n, 0, tape.size)) {
            return refuse(BAD_NUMBER);
        }
        tape.scan(n);
        tape.size = 0;
        if (!scribe.reads()) {
            return refuse(FAULTY);
        }
        if (statutes.size >= Statutes.MOST) {
            return refuse(NO_ROOM);
        }
        return grant(statutes.enact(day));
    }

    public int fault() {
        return scribe.faultKind;
    }

    public int where() {
        return refusal == FAULTY ? scribe.faultPlace() : NONE;
    }

    public int force(int day) {
        return isDay(day) ? statutes.inForce(day) : NONE;
    }

    public int eats(int household, int day, boolean horse) {
        if (!court.has(household) || !isDay(day)) {
            return NONE;
        }
        return statutes.portion(household, day, horse);
    }

    public int need(int day) {
        return isDay(day) ? statutes.needOf(day) : NONE;
    }

    // ---- lodgings

    public int lodge(int place) {
        if (!land.has(place)) {
            return refuse(NO_SUCH);
        }
        int sum = lodger.leastSum(place);
        if (sum == NONE) {
            return refuse(NO_PLAN);
        }
        lodger.preferLesserRooms(sum);
        for (int h = 0; h < MAX_HOUSEHOLDS; h++) {
            lodgedIn[h] = lodger.roomOf(h);
        }
        return grant(sum);
    }

    public int lodged(int household) {
        return isWithin(household, 0, MAX_HOUSEHOLDS - 1) ? lodgedIn[household] : NONE;
    }

    public int why(int place) {
        return land.has(place) ? grant(lodger.reasonAgainst(place)) : refuse(NO_SUCH);
    }

    // ---- routes

    public int route(int last) {
        if (!isDay(last) || last < today || last > today + LONGEST_ROUTE) {
            return refuse(BAD_NUMBER);
        }
        if (!land.has(here)) {
            return refuse(NO_PLAN);
        }
        int hours = router.leastHours(today, last, here);
        if (hours == NONE) {
            return refuse(NO_PLAN);
        }
        router.trace(hours);
        return grant(hours);
    }

    public int at(int day) {
        return router.stopOn(day);
    }

    public int lasts() {
        if (!land.has(here)) {
            return refuse(NO_PLAN);
        }
        int left = land.supply(here);
        int days = 0;
        for (int day = today; day < DAYS; day++) {
            left -= statutes.needOf(day);
            if (left < 0) {
                break;
            }
            days++;
        }
        return grant(days);
    }

    // ---- steps

    public int step(int place) {
        if (!land.has(place) || !land.has(here)) {
            return refuse(NO_SUCH);
        }
        if (place != here && land.hoursOn(here, place, calendar.mudOf(today)) == 0) {
            return refuse(NO_PASSAGE);
        }
        if (today >= DAYS - 1) {
            return refuse(BAD_NUMBER);
        }
        int missing = land.take(here, statutes.needOf(today));
        placeOn[today] = here;
        lackedOn[today] = missing;
        here = place;
        today++;
        return grant(missing);
    }

    public int about(int place, int what) {
        return land.has(place) ? land.fact(place, what) : NONE;
    }

    public int was(int day) {
        return isPast(day) ? placeOn[day] : NONE;
    }

    public int lacked(int day) {
        return isPast(day) ? lackedOn[day] : NONE;
    }

    // ---- pleas

    public int plea(int worth) {
        if (!isWithin(worth, 0, 99)) {
            return refuse(BAD_NUMBER);
        }
        if (pleas.size >= Pleas.MOST) {
            return refuse(NO_ROOM);
        }
        return grant(pleas.add(worth, today));
    }

    public int hear(int many) {
        return isWithin(many, 1, 9) ? grant(pleas.hearFirst(many, today)) : refuse(BAD_NUMBER);
    }

    public int heard(int plea) {
        return pleas.dayHeard(plea);
    }

    public int next(int i) {
        return pleas.inTurn(i);
    }

    public int count(int what) {
        switch (what) {
            case 0: return court.size;
            case 1: return land.size;
            case 2: return statutes.size;
            case 3: return calendar.feasts;
            case 4: return pleas.waitingSize;
            case 5: return today;
            case 6: return here;
            case 7: return tape.size;
            default: return NONE;
        }
    }

    public int trouble() {
        return refusal;
    }

    private int refuse(int why) {
        refusal = why;
        return NONE;
    }

    private int grant(int answer) {
        refusal = FINE;
        return answer;
    }

    private boolean deny(int why) {
        refusal = why;
        return false;
    }

    private boolean allow() {
        refusal = FINE;
        return true;
    }

    private boolean isPast(int day) {
        return isDay(day) && day < today;
    }

    private static boolean isDay(int day) {
        return day >= 0 && day < DAYS;
    }

    private static boolean isWithin(int number, int least, int most) {
        return number >= least && number <= most;
    }

    /** Place of the lowest bit; a set that may be empty is tested before it is asked. */
    private static int lowestIn(int set) {
        return Integer.bitCount((set & -set) - 1);
    }

    private static final class Households {
        int size;
        final int[] ranks = new int[MAX_HOUSEHOLDS];
        final int[] mouths = new int[MAX_HOUSEHOLDS];
        final int[] horses = new int[MAX_HOUSEHOLDS];
        /** Of each household a set: bit h stands for household h. */
        final int[] barredFrom = new int[MAX_HOUSEHOLDS];

        boolean has(int h) {
            return h >= 0 && h < size;
        }

        int add(int rankOfIt, int mouthsOfIt, int horsesOfIt) {
            if (size >= MAX_HOUSEHOLDS) {
                return NONE;
            }
            ranks[size] = rankOfIt;
            mouths[size] = mouthsOfIt;
            horses[size] = horsesOfIt;
            size++;
            return size - 1;
        }

        void setBar(int one, int other, boolean on) {
            if (!has(one) || !has(other)) {
                return;
            }
            if (on) {
                barredFrom[one] |= 1 << other;
                barredFrom[other] |= 1 << one;
            } else {
                barredFrom[one] &= ~(1 << other);
                barredFrom[other] &= ~(1 << one);
            }
        }

        boolean ranksDiffer() {
            for (int h = 1; h < size; h++) {
                if (ranks[h] != ranks[0]) {
                    return true;
                }
            }
            return false;
        }

        int allHorses() {
            int all = 0;
            for (int h = 0; h < size; h++) {
                all += horses[h];
            }
            return all;
        }
    }

    private static final class Places {
        int size;
        final int[] store = new int[MAX_PLACES];
        final int[] owes = new int[MAX_PLACES];
        final int[] stalls = new int[MAX_PLACES];
        final int[] taken = new int[MAX_PLACES];
        final int[] daysEaten = new int[MAX_PLACES];
        final int[] rooms = new int[MAX_PLACES];
        /** Room r of place p stands at p * MAX_ROOMS + r. */
        final int[] worths = new int[MAX_PLACES * MAX_ROOMS];
        final int[] houses = new int[MAX_PLACES * MAX_ROOMS];
        final int[] walks = new int[MAX_PLACES * MAX_ROOMS];
        final int[] ways = new int[MAX_PLACES * MAX_PLACES];

        boolean has(int p) {
            return p >= 0 && p < size;
        }

        int add(int storeOfIt, int owesOfIt, int stallsOfIt) {
            if (size >= MAX_PLACES) {
                return NONE;
            }
            store[size] = storeOfIt;
            owes[size] = owesOfIt;
            stalls[size] = stallsOfIt;
            size++;
            return size - 1;
        }

        int addRoom(int p, int worth, int house, int walk) {
            if (!has(p) || rooms[p] >= MAX_ROOMS) {
                return NONE;
            }
            int slot = p * MAX_ROOMS + rooms[p];
            worths[slot] = worth;
            houses[slot] = house;
            walks[slot] = walk;
            rooms[p]++;
            return rooms[p] - 1;
        }

        void setWay(int one, int other, int hours) {
            if (has(one) && has(other)) {
                ways[one * MAX_PLACES + other] = hours;
                ways[other * MAX_PLACES + one] = hours;
            }
        }

        /** Hours of the way in so much mud; 0 if there is none or it is too long for a day. */
        int hoursOn(int one, int other, int deep) {
            if (!has(one) || !has(other)) {
                return 0;
            }
            int hours = ways[one * MAX_PLACES + other] * (4 + deep) / 4;
            return hours > LONGEST_DAY ? 0 : hours;
        }

        /** How much can be had of a place: no more than it has, nor than it owes. */
        int supply(int p) {
            return has(p) ? Math.min(store[p], owes[p]) : 0;
        }

        /** Takes a day's need as far as it lasts: what lacks. */
        int take(int p, int wanted) {
            if (!has(p)) {
                return wanted;
            }
            int had = Math.min(wanted, supply(p));
            store[p] -= had;
            owes[p] -= had;
            taken[p] += had;
            daysEaten[p]++;
            return wanted - had;
        }

        int fact(int p, int what) {
            if (!has(p)) {
                return NONE;
            }
            switch (what) {
                case 0: return store[p];
                case 1: return owes[p];
                case 2: return taken[p];
                case 3: return rooms[p];
                case 4: return daysEaten[p];
                default: return NONE;
            }
        }
    }

    private static final class Calendar {
        final int[] depth = new int[DAYS];
        final int[] feastPlace = new int[DAYS];
        int feasts;

        Calendar() {
            for (int day = 0; day < DAYS; day++) {
                feastPlace[day] = NONE;
            }
        }

        void setMud(int from, int to, int deep) {
            for (int day = Math.max(from, 0); day <= to && day < DAYS; day++) {
                depth[day] = deep;
            }
        }

        int mudOf(int day) {
            return isDay(day) ? depth[day] : 0;
        }

        int feastOf(int day) {
            return isDay(day) ? feastPlace[day] : NONE;
        }

        boolean hasRoomForFeast(int day) {
            return feasts < MAX_FEASTS || feastOf(day) != NONE;
        }

        void setFeast(int day, int p) {
            if (!isDay(day)) {
                return;
            }
            if (feastPlace[day] != NONE) {
                feasts--;
            }
            if (p != NONE) {
                feasts++;
            }
            feastPlace[day] = p;
        }
    }

    /** The ordinances as rows of numbers, and what is eaten by them. */
    private static final class Statutes {
        static final int MOST = 10;
        static final int MAX_RULES = 12;
        static final int MAX_TESTS = 4;
        static final int MAX_TERMS = 4;
        static final int RANK = 0;
        static final int MOUTHS = 1;
        static final int HORSES = 2;
        static final int DAY = 3;
        static final int MUD = 4;
        static final int FEAST = 5;
        /** The name that a number without one is multiplied by. */
        static final int ONE = 6;
        /** A rule's row: for horses or not, how many tests and terms, then these. */
        private static final int TESTS_AT = 3;
        private static final int TERMS_AT = TESTS_AT + 3 * MAX_TESTS;
        private static final int RULE_SIZE = TERMS_AT + 2 * MAX_TERMS;

        private final Households court;
        private final Calendar calendar;
        int size;
        private final int[] firstDay = new int[MOST];
        /** One more than is kept: a text is read into the row behind the last one. */
        private final int[] ruleCount = new int[MOST + 1];
        private final int[] rules = new int[(MOST + 1) * MAX_RULES * RULE_SIZE];
        private int draftRow;
        private final int[] values = new int[ONE + 1];

        Statutes(Households court, Calendar calendar) {
            this.court = court;
            this.calendar = calendar;
            values[ONE] = 1;
        }

        void beginDraft() {
            if (size <= MOST) {
                ruleCount[size] = 0;
            }
        }

        void draftRule() {
            if (size <= MOST && ruleCount[size] < MAX_RULES) {
                draftRow = rowOf(size, ruleCount[size]);
                rules[draftRow] = 0;
                rules[draftRow + 1] = 0;
                rules[draftRow + 2] = 0;
                ruleCount[size]++;
            }
        }

        void draftKind(boolean horse) {
            rules[draftRow] = horse ? 1 : 0;
        }

        void draftTest(int name, int sign, int number) {
            if (rules[draftRow + 1] < MAX_TESTS) {
                int slot = draftRow + TESTS_AT + 3 * rules[draftRow + 1];
                rules[slot] = name;
                rules[slot + 1] = sign;
                rules[slot + 2] = number;
                rules[draftRow + 1]++;
            }
        }

        void draftTerm(int number, int name) {
            if (rules[draftRow + 2] < MAX_TERMS) {
                int slot = draftRow + TERMS_AT + 2 * rules[draftRow + 2];
                rules[slot] = number;
                rules[slot + 1] = name;
                rules[draftRow + 2]++;
            }
        }

        /** The draft is an ordinance now: its number. */
        int enact(int day) {
            if (size >= MOST) {
                return NONE;
            }
            firstDay[size] = day;
            size++;
            return size - 1;
        }

        int inForce(int day) {
            int found = NONE_YET;
            int since = NONE;
            for (int o = 0; o < size; o++) {
                if (firstDay[o] <= day && firstDay[o] >= since) {
                    found = o;
                    since = firstDay[o];
                }
            }
            return found;
        }

        int portion(int h, int day, boolean horse) {
            int o = inForce(day);
            if (o < 0 || !court.has(h)) {
                return 0;
            }
            setDay(day);
            setHousehold(h);
            return firstSum(o, horse ? 1 : 0);
        }

        int needOf(int day) {
            int o = inForce(day);
            if (o < 0) {
                return 0;
            }
            setDay(day);
            long all = 0;
            for (int h = 0; h < court.size; h++) {
                setHousehold(h);
                all += (long) court.mouths[h] * firstSum(o, 0);
                all += court.horses[h] == 0 ? 0 : (long) court.horses[h] * firstSum(o, 1);
            }
            return (int) Math.min(all, MAX_NEED);
        }

        private void setDay(int day) {
            values[DAY] = day;
            values[MUD] = calendar.mudOf(day);
            values[FEAST] = calendar.feastOf(day) == NONE ? 0 : 1;
        }

        private void setHousehold(int h) {
            if (court.has(h)) {
                values[RANK] = court.ranks[h];
                values[MOUTHS] = court.mouths[h];
                values[HORSES] = court.horses[h];
            }
        }

        private int firstSum(int o, int kind) {
            if (o < 0 || o >= size) {
                return 0;
            }
            for (int r = 0; r < ruleCount[o]; r++) {
                int row = rowOf(o, r);
                if (rules[row] == kind && testsHold(row)) {
                    return sumOf(row);
                }
            }
            return 0;
        }

        private boolean testsHold(int row) {
            int end = row + TESTS_AT + 3 * rules[row + 1];
            for (int slot = row + TESTS_AT; slot < end; slot += 3) {
                int value = valueOf(rules[slot]);
                int number = rules[slot + 2];
                boolean holds;
                switch (rules[slot + 1]) {
                    case '<': holds = value < number; break;
                    case '>': holds = value > number; break;
                    default: holds = value == number; break;
                }
                if (!holds) {
                    return false;
                }
            }
            return true;
        }

        private int sumOf(int row) {
            int sum = 0;
            int end = row + TERMS_AT + 2 * rules[row + 2];
            for (int slot = row + TERMS_AT; slot < end; slot += 2) {
                sum += rules[slot] * valueOf(rules[slot + 1]);
            }
            return sum;
        }

        private int valueOf(int name) {
            return name >= 0 && name <= ONE ? values[name] : 0;
        }

        private static int rowOf(int o, int r) {
            return (o * MAX_RULES + r) * RULE_SIZE;
        }
    }

    /** The tape's bytes, and the tokens of a text on it. */
    private static final class Tape {
        /** Tokens: the names by their numbers, single signs by their bytes, and these. */
        static final int END = -1;
        static final int NO_TOKEN = -2;
        static final int OTHER_WORD = 256;
        static final int WHEN = 257;
        static final int AND = 258;
        static final int EATS = 259;
        static final int FEEDS = 260;
        /** The number n is the token ZERO + n. */
        static final int ZERO = 1000;

        private static final int LENGTH = 400;
        private static final int FED = 20;
        private static final int LONGEST_WORD = 8;
        private static final int LONGEST_NUMBER = 3;

        int size;
        private final int[] bytes = new int[LENGTH];
        private int length;
        private int tokenCount;
        private final int[] tokens = new int[LENGTH + 1];
        private final int[] tokenPlaces = new int[LENGTH + 1];

        boolean hasRoom() {
            return size <= LENGTH - FED;
        }

        void append(int four) {
            for (int shift = 24; shift >= 0 && size < LENGTH; shift -= 8) {
                bytes[size] = four >>> shift & 255;
                size++;
            }
        }

        /** The i-th token of the latest text; END behind the last one. */
        int tokenAt(int i) {
            return i >= 0 && i < tokenCount ? tokens[i] : END;
        }

        /** The place of the i-th token of the latest text. */
        int placeAt(int i) {
            return i >= 0 && i < tokenCount ? tokenPlaces[i] : NONE;
        }

        /** Parts the first n bytes into tokens, up to the end or to the first byte that begins none. */
        void scan(int n) {
            length = Math.max(0, Math.min(n, size));
            tokenCount = 0;
            int last = 0;
            int position = 0;
            while (tokenCount <= LENGTH && last != END && last != NO_TOKEN) {
                position = skipBlanks(position);
                int behind = tokenEnd(position);
                last = tokenOf(position, behind);
                tokens[tokenCount] = last;
                tokenPlaces[tokenCount] = position;
                tokenCount++;
                position = behind;
            }
        }

        /** A byte of the latest text; NONE outside of it. */
        private int byteAt(int i) {
            return i >= 0 && i < length ? bytes[i] : NONE;
        }

        private int skipBlanks(int from) {
            int i = from;
            while (i < length && byteAt(i) == ' ') {
                i++;
            }
            return i;
        }

        private int tokenEnd(int from) {
            int i = from;
            if (isLetter(from)) {
                while (i < length && isLetter(i)) {
                    i++;
                }
            } else if (isDigit(from)) {
                while (i < length && isDigit(i)) {
                    i++;
                }
            } else {
                i++;
            }
            return i;
        }

        private int tokenOf(int from, int behind) {
            if (from >= length) {
                return END;
            }
            if (isLetter(from)) {
                return behind - from > LONGEST_WORD ? NO_TOKEN : wordOf(from, behind);
            }
            if (isDigit(from)) {
                return behind - from > LONGEST_NUMBER ? NO_TOKEN : numberOf(from, behind);
            }
            return isSign(byteAt(from)) ? byteAt(from) : NO_TOKEN;
        }

        private int numberOf(int from, int behind) {
            int number = 0;
            for (int i = from; i < behind; i++) {
                number = number * 10 + byteAt(i) - '0';
            }
            return ZERO + number;
        }

        private int wordOf(int from, int behind) {
            if (spells("rank", from, behind)) return Statutes.RANK;
            if (spells("mouths", from, behind)) return Statutes.MOUTHS;
            if (spells("horses", from, behind)) return Statutes.HORSES;
            if (spells("day", from, behind)) return Statutes.DAY;
            if (spells("mud", from, behind)) return Statutes.MUD;
            if (spells("feast", from, behind)) return Statutes.FEAST;
            if (spells("when", from, behind)) return WHEN;
            if (spells("and", from, behind)) return AND;
            if (spells("eats", from, behind)) return EATS;
            if (spells("feeds", from, behind)) return FEEDS;
            return OTHER_WORD;
        }

        private boolean spells(String word, int from, int behind) {
            if (behind - from != word.length()) {
                return false;
            }
            for (int i = 0; i < word.length(); i++) {
                if (byteAt(from + i) != word.charAt(i)) {
                    return false;
                }
            }
            return true;
        }

        private boolean isLetter(int i) {
            return byteAt(i) >= 'a' && byteAt(i) <= 'z';
        }

        private boolean isDigit(int i) {
            return byteAt(i) >= '0' && byteAt(i) <= '9';
        }

        private static boolean isSign(int sign) {
            return sign == '<' || sign == '>' || sign == '=' || sign == '+' || sign == '*' || sign == ';';
        }
    }

    /** Reads a text from the left, up to its first fault. */
    private static final class Scribe {
        private static final int FORM = 1;
        private static final int NO_NAME = 2;
        private static final int MANY = 3;

        private final Tape tape;
        private final Statutes draft;
        int faultKind;
        private int cursor;
        private int token;

        Scribe(Tape tape, Statutes draft) {
            this.tape = tape;
            this.draft = draft;
        }

        /** Reads what was scanned into the statutes' draft; false with a fault. */
        boolean reads() {
            faultKind = 0;
            cursor = 0;
            token = tape.tokenAt(0);
            draft.beginDraft();
            for (int rule = 0; rule <= Statutes.MAX_RULES; rule++) {
                if (!readRule(rule)) {
                    return false;
                }
                if (token == Tape.END) {
                    return true;
                }
                if (token != ';') {
                    return fail(FORM);
                }
                advance();
            }
            return false;
        }

        int faultPlace() {
            return tape.placeAt(cursor);
        }

        private boolean readRule(int rule) {
            if (token != Tape.WHEN && token != Tape.EATS && token != Tape.FEEDS) {
                return fail(FORM);
            }
            if (rule >= Statutes.MAX_RULES) {
                return fail(MANY);
            }
            draft.draftRule();
            if (token == Tape.WHEN && !readTests()) {
                return false;
            }
            if (token != Tape.EATS && token != Tape.FEEDS) {
                return fail(FORM);
            }
            draft.draftKind(token == Tape.FEEDS);
            return readSum();
        }

        private boolean readTests() {
            for (int test = 0; test <= Statutes.MAX_TESTS; test++) {
                advance();
                if (!isName()) {
                    return failWithoutName();
                }
                if (test >= Statutes.MAX_TESTS) {
                    return fail(MANY);
                }
                if (!readTest()) {
                    return false;
                }
                if (token != Tape.AND) {
                    return true;
                }
            }
            return false;
        }

        private boolean readTest() {
            int name = token;
            advance();
            int sign = token;
            if (sign != '<' && sign != '>' && sign != '=') {
                return fail(FORM);
            }
            advance();
            if (!isNumber()) {
                return fail(FORM);
            }
            draft.draftTest(name, sign, token - Tape.ZERO);
            advance();
            return true;
        }

        private boolean readSum() {
            for (int term = 0; term <= Statutes.MAX_TERMS; term++) {
                advance();
                if (!isNumber() && !isName()) {
                    return failWithoutName();
                }
                if (term >= Statutes.MAX_TERMS) {
                    return fail(MANY);
                }
                if (!readTerm()) {
                    return false;
                }
                if (token != '+') {
                    return true;
                }
            }
            return false;
        }

        private boolean readTerm() {
            int factor = 1;
            if (isNumber()) {
                factor = token - Tape.ZERO;
                advance();
                if (token != '*') {
                    draft.draftTerm(factor, Statutes.ONE);
                    return true;
                }
                advance();
                if (!isName()) {
                    return failWithoutName();
                }
            }
            draft.draftTerm(factor, token);
            advance();
            return true;
        }

        private void advance() {
            cursor++;
            token = tape.tokenAt(cursor);
        }

        private boolean isNumber() {
            return token >= Tape.ZERO;
        }

        private boolean isName() {
            return token >= Statutes.RANK && token <= Statutes.FEAST;
        }

        private boolean failWithoutName() {
            return fail(token == Tape.OTHER_WORD ? NO_NAME : FORM);
        }

        /** The cursor stays at the token where it is. */
        private boolean fail(int kind) {
            faultKind = kind;
            return false;
        }
    }

    /** Finds lodgings: tries the household with the fewest rooms open to it first, and leaves off where none better can be. */
    private static final class Lodger {
        private static final int TOO_MUCH = 1000000;
        private static final int TOO_FEW_ROOMS = 1;
        private static final int TOO_FEW_STALLS = 2;
        private static final int BARS = 3;
        private static final int RANKS = 4;

        private final Households court;
        private final Places land;
        private int rooms;
        /** Spots: the rooms in order of their walks; a set of rooms has a bit for each spot. */
        private final int[] roomAt = new int[MAX_ROOMS];
        private final int[] walkTo = new int[MAX_ROOMS];
        private final int[] sameHouse = new int[MAX_ROOMS];
        private final int[] noLess = new int[MAX_ROOMS];
        private final int[] noMore = new int[MAX_ROOMS];
        private final int[] twins = new int[MAX_ROOMS];
        /** Rooms open to household h, once so many have theirs: at many * MAX_HOUSEHOLDS + h. */
        private final int[] open = new int[(MAX_HOUSEHOLDS + 1) * MAX_HOUSEHOLDS];
        private final int[] weight = new int[MAX_HOUSEHOLDS];
        private final int[] heaviestFirst = new int[MAX_HOUSEHOLDS];
        private final int[] spotOf = new int[MAX_HOUSEHOLDS];
        private final int[] bestSpotOf = new int[MAX_HOUSEHOLDS];
        private int limit;
        private int enough;

        Lodger(Households court, Places land) {
            this.court = court;
            this.land = land;
        }

        int roomOf(int h) {
            return court.has(h) ? roomAt[bestSpotOf[h]] : NONE;
        }

        int reasonAgainst(int p) {
            if (!land.has(p)) {
                return NONE;
            }
            if (land.rooms[p] < court.size) {
                return TOO_FEW_ROOMS;
            }
            if (court.allHorses() > land.stalls[p]) {
                return TOO_FEW_STALLS;
            }
            if (isPossible(p, true)) {
                return 0;
            }
            return isPossible(p, false) ? RANKS : BARS;
        }

        /** The least sum of a lodging at a place, or NONE. */
        int leastSum(int p) {
            if (!land.has(p) || land.rooms[p] < court.size || court.allHorses() > land.stalls[p]) {
                return NONE;
            }
            if (!isPossible(p, true)) {
                return NONE;
            }
            prepare(p, true, true);
            limit = TOO_MUCH;
            enough = 0;
            search(0, everyone(), 0);
            return limit;
        }

        private boolean isPossible(int p, boolean ranked) {
            prepare(p, ranked, false);
            limit = 1;
            enough = 0;
            search(0, everyone(), 0);
            return limit == 0;
        }

        private int everyone() {
            return (1 << court.size) - 1;
        }

        private void prepare(int p, boolean ranked, boolean weighed) {
            rooms = land.has(p) ? land.rooms[p] : 0;
            for (int h = 0; h < court.size; h++) {
                weight[h] = weighed ? court.mouths[h] : 0;
                open[h] = (1 << rooms) - 1;
            }
            sortRooms(p);
            sortHouseholds();
            boolean worthCounts = ranked && court.ranksDiffer();
            for (int spot = 0; spot < rooms; spot++) {
                relate(p, spot, worthCounts, weighed);
            }
        }

        private void sortRooms(int p) {
            for (int r = 0; r < rooms; r++) {
                int walk = land.walks[p * MAX_ROOMS + r];
                int spot = r;
                while (spot > 0 && walkTo[spot - 1] > walk) {
                    walkTo[spot] = walkTo[spot - 1];
                    roomAt[spot] = roomAt[spot - 1];
                    spot--;
                }
                walkTo[spot] = walk;
                roomAt[spot] = r;
            }
        }

        private void sortHouseholds() {
            for (int h = 0; h < court.size; h++) {
                int i = h;
                while (i > 0 && weight[heaviestFirst[i - 1]] < weight[h]) {
                    heaviestFirst[i] = heaviestFirst[i - 1];
                    i--;
                }
                heaviestFirst[i] = h;
            }
        }

        private void relate(int p, int spot, boolean worthCounts, boolean weighed) {
            int room = p * MAX_ROOMS + roomAt[spot];
            sameHouse[spot] = 0;
            noLess[spot] = 0;
            noMore[spot] = 0;
            twins[spot] = 0;
            for (int s = 0; s < rooms; s++) {
                int other = p * MAX_ROOMS + roomAt[s];
                boolean oneHouse = land.houses[other] == land.houses[room];
                boolean oneWorth = !worthCounts || land.worths[other] == land.worths[room];
                boolean oneWalk = !weighed || walkTo[s] == walkTo[spot];
                sameHouse[spot] |= bitIf(oneHouse, s);
                noLess[spot] |= bitIf(!worthCounts || land.worths[other] >= land.worths[room], s);
                noMore[spot] |= bitIf(!worthCounts || land.worths[other] <= land.worths[room], s);
                twins[spot] |= bitIf(oneHouse && oneWorth && oneWalk, s);
            }
        }

        private static int bitIf(boolean is, int bit) {
            return is ? 1 << bit : 0;
        }

        private void search(int depth, int todo, int sum) {
            if (todo == 0) {
                keep(sum);
                return;
            }
            int h = depth < MAX_HOUSEHOLDS ? choose(depth, todo, sum) : NONE;
            if (h == NONE) {
                return;
            }
            int untried = open[depth * MAX_HOUSEHOLDS + h];
            int rest = todo & ~(1 << h);
            for (int spot = 0; spot < rooms && limit > enough; spot++) {
                if ((untried >> spot & 1) == 1) {
                    // What a room gives, its twins give too.
                    untried &= ~twins[spot];
                    give(depth, h, spot, rest);
                    search(depth + 1, rest, sum + weight[h] * walkTo[spot]);
                }
            }
        }

        private void keep(int sum) {
            if (sum < limit) {
                limit = sum;
                for (int h = 0; h < court.size; h++) {
                    bestSpotOf[h] = spotOf[h];
                }
            }
        }

        /** The household to try next; NONE if no lodging below the limit can come of it. */
        private int choose(int depth, int todo, int sum) {
            int chosen = NONE;
            int hardest = -1;
            int anyones = 0;
            int leastAlone = sum;
            for (int i = 0; i < court.size; i++) {
                int h = heaviestFirst[i];
                if ((todo >> h & 1) == 1) {
                    int set = open[depth * MAX_HOUSEHOLDS + h];
                    if (set == 0) {
                        return NONE;
                    }
                    anyones |= set;
                    leastAlone += weight[h] * walkTo[lowestIn(set)];
                    int hard = hardship(h, set, todo);
                    if (hard > hardest) {
                        hardest = hard;
                        chosen = h;
                    }
                }
            }
            boolean hopeless = leastAlone >= limit || sum + leastTogether(todo, anyones) >= limit;
            return hopeless ? NONE : chosen;
        }

        /** More with fewer rooms open; of as few, more with more bars to those that have none yet. */
        private int hardship(int h, int set, int todo) {
            int closed = MAX_ROOMS - Integer.bitCount(set);
            return closed * MAX_HOUSEHOLDS + Integer.bitCount(court.barredFrom[h] & todo);
        }

        /** The least sum if each could have any of these rooms: the most mouths the least walk. */
        private int leastTogether(int todo, int set) {
            int sum = 0;
            int spot = 0;
            for (int i = 0; i < court.size; i++) {
                int h = heaviestFirst[i];
                if ((todo >> h & 1) == 1) {
                    while (spot < rooms && (set >> spot & 1) == 0) {
                        spot++;
                    }
                    if (spot >= rooms) {
                        return TOO_MUCH;
                    }
                    sum += weight[h] * walkTo[spot];
                    spot++;
                }
            }
            return sum;
        }

        private void give(int depth, int h, int spot, int rest) {
            spotOf[h] = spot;
            int from = depth * MAX_HOUSEHOLDS;
            for (int other = 0; other < court.size; other++) {
                if ((rest >> other & 1) == 1) {
                    int set = open[from + other] & ~(1 << spot);
                    if ((court.barredFrom[h] >> other & 1) == 1) {
                        set &= ~sameHouse[spot];
                    }
                    if (court.ranks[other] > court.ranks[h]) {
                        set &= noLess[spot];
                    } else if (court.ranks[other] < court.ranks[h]) {
                        set &= noMore[spot];
                    }
                    open[from + MAX_HOUSEHOLDS + other] = set;
                }
            }
        }

        /** Of all lodgings with the least sum just found, that in which household 0 has the lesser room, then 1 and so on. */
        void preferLesserRooms(int least) {
            int rest = everyone();
            int sum = 0;
            for (int h = 0; h < court.size; h++) {
                rest &= ~(1 << h);
                findLesserRoom(h, rest, sum, least);
                give(h, h, bestSpotOf[h], rest);
                sum += weight[h] * walkTo[bestSpotOf[h]];
            }
        }

        private void findLesserRoom(int h, int rest, int sum, int least) {
            int known = roomAt[bestSpotOf[h]];
            for (int r = 0; r < known; r++) {
                int spot = spotOfRoom(r);
                if ((open[h * MAX_HOUSEHOLDS + h] >> spot & 1) == 1) {
                    limit = least + 1;
                    enough = least;
                    give(h, h, spot, rest);
                    search(h + 1, rest, sum + weight[h] * walkTo[spot]);
                    if (limit == least) {
                        return;
                    }
                }
            }
        }

        private int spotOfRoom(int r) {
            int found = 0;
            for (int spot = 0; spot < rooms; spot++) {
                if (roomAt[spot] == r) {
                    found = spot;
                }
            }
            return found;
        }
    }

    /** Finds routes: the least hours from each day, place and set of places behind it are reckoned once. */
    private static final class Router {
        private static final int SPAN = LONGEST_ROUTE + 1;
        /** More hours than any route has: at most eight ways of at most sixteen. */
        private static final int NEVER = 255;
        private static final int UNKNOWN = 254;
        private static final int MARKS = 1 << 16;

        private final Places land;
        private final Calendar calendar;
        private final Statutes statutes;
        private int first;
        /** Days are counted from the first one on; this is the last one's count. */
        private int end;
        private int start;
        private final int[] needs = new int[SPAN];
        private final int[] muds = new int[SPAN];
        /** The last day of a row that begins on day i at place p: at i * MAX_PLACES + p. */
        private final int[] rowEnds = new int[SPAN * MAX_PLACES];
        /** Least hours by leaving and by coming, with the mark of the call that found them: so none need be wiped out. */
        private int[] known = new int[0];
        private int mark;
        private final int[] stops = new int[SPAN];
        private int firstTold;
        private int lastTold;

        Router(Places land, Calendar calendar, Statutes statutes) {
            this.land = land;
            this.calendar = calendar;
            this.statutes = statutes;
            lastTold = NONE;
        }

        /** The place of a day in the latest route that was found. */
        int stopOn(int day) {
            boolean told = day >= firstTold && day <= lastTold && day - firstTold < SPAN;
            return told ? stops[day - firstTold] : NONE;
        }

        /** The least hours of a route, or NONE. */
        int leastHours(int from, int last, int place) {
            if (!land.has(place) || last < from || last - from >= SPAN) {
                return NONE;
            }
            first = from;
            end = last - from;
            start = place;
            measureRows();
            makeRoom();
            mark = (mark + 1) % MARKS;
            int hours = leastOnward(0, 0, start, 1 << start);
            return hours >= NEVER ? NONE : hours;
        }

        private void measureRows() {
            for (int i = 0; i <= end; i++) {
                needs[i] = statutes.needOf(first + i);
                muds[i] = calendar.mudOf(first + i);
            }
            for (int p = 0; p < land.size; p++) {
                for (int i = 0; i <= end; i++) {
                    rowEnds[i * MAX_PLACES + p] = measuredEnd(i, p);
                }
            }
        }

        private int measuredEnd(int from, int p) {
            int left = land.supply(p);
            int i = from;
            while (i <= end && needs[i] <= left && mayBeAt(p, i)) {
                left -= needs[i];
                i++;
            }
            return i - 1;
        }

        /** The last day of a row that was measured; the day before its first one if there was none. */
        private int rowEnd(int from, int p) {
            boolean isMeasured = from >= 0 && from <= end && p >= 0 && p < land.size;
            return isMeasured ? rowEnds[from * MAX_PLACES + p] : from - 1;
        }

        private boolean mayBeAt(int p, int i) {
            int feastPlace = calendar.feastOf(first + i);
            return feastPlace == NONE || feastPlace == p;
        }

        private void makeRoom() {
            int size = land.size < 1 ? 0 : (1 << land.size - 1) * land.size * SPAN;
            if (known.length < size) {
                known = new int[size];
            }
        }

        /** Least hours of a row that began on a day, if it is left on a later one or not at all. */
        private int leastOnward(int began, int from, int p, int seen) {
            int rowEnd = rowEnd(began, p);
            if (rowEnd >= end) {
                return 0;
            }
            int best = NEVER;
            for (int i = from; i <= rowEnd; i++) {
                best = Math.min(best, leastLeaving(i, p, seen));
            }
            return best;
        }

        /** Least hours if the court leaves p on day i. */
        private int leastLeaving(int i, int p, int seen) {
            int slot = slotOf(i, p, seen);
            if (slot == NONE) {
                return NEVER;
            }
            int leaving = known[slot] >> 8 & 255;
            if (leaving == UNKNOWN) {
                leaving = NEVER;
                for (int q = 0; q < land.size; q++) {
                    leaving = Math.min(leaving, leastBy(i, p, q, seen, leaving));
                }
                known[slot] = known[slot] & ~(255 << 8) | leaving << 8;
            }
            return leaving;
        }

        /** Least hours if the court goes from p to q on day i; NEVER, or more, if that can't be below the bound. */
        private int leastBy(int i, int p, int q, int seen, int bound) {
            if (i < 0 || i >= end || (seen >> q & 1) == 1) {
                return NEVER;
            }
            int hours = land.hoursOn(p, q, muds[i]);
            if (hours == 0 || hours >= bound || rowEnd(i + 1, q) <= i) {
                return NEVER;
            }
            return hours + leastFrom(i + 1, q, seen | 1 << q);
        }

        /** Least hours if the court comes to p on day i. */
        private int leastFrom(int i, int p, int seen) {
            int slot = slotOf(i, p, seen);
            if (slot == NONE) {
                return NEVER;
            }
            int coming = known[slot] & 255;
            if (coming == UNKNOWN) {
                coming = leastOnward(i, i, p, seen);
                known[slot] = known[slot] & ~255 | coming;
            }
            return coming;
        }

        /** Where it is known, or NONE; what an earlier call left there is unknown now. */
        private int slotOf(int i, int p, int seen) {
            // The first place is always seen, so its bit is left out.
            int below = seen & (1 << start) - 1;
            int others = below | seen >> start + 1 << start;
            int slot = (others * land.size + p) * SPAN + i;
            if (slot < 0 || slot >= known.length) {
                return NONE;
            }
            if (known[slot] >>> 16 != mark) {
                known[slot] = mark << 16 | UNKNOWN << 8 | UNKNOWN;
            }
            return slot;
        }

        /** Keeps the route with the least hours just found: day by day the least place by which they are enough. */
        void trace(int hours) {
            int p = start;
            int seen = 1 << start;
            int began = 0;
            int left = hours;
            firstTold = first;
            lastTold = first + end;
            stops[0] = start;
            for (int i = 0; i < end; i++) {
                int q = leastNext(i, began, p, seen, left);
                if (q != p) {
                    left -= land.hoursOn(p, q, muds[i]);
                    seen |= 1 << q;
                    began = i + 1;
                    p = q;
                }
                stops[i + 1] = p;
            }
        }

        private int leastNext(int i, int began, int p, int seen, int left) {
            for (int q = 0; q < land.size; q++) {
                int hours = q == p ? leastOnward(began, i + 1, p, seen) : leastBy(i, p, q, seen, NEVER);
                if (hours == left) {
                    return q;
                }
            }
            return p;
        }
    }

    /** The pleas; those that wait stand in the order of their turns, which the days do not change. */
    private static final class Pleas {
        static final int MOST = 60;

        int size;
        int waitingSize;
        /** Worth less the day it came: each day that all wait adds the same to each. */
        private final int[] urgency = new int[MOST];
        private final int[] heardOn = new int[MOST];
        private final int[] waiting = new int[MOST];

        int add(int worth, int day) {
            if (size >= MOST) {
                return NONE;
            }
            urgency[size] = worth - day;
            heardOn[size] = NONE_YET;
            int i = waitingSize;
            while (i > 0 && urgency[waiting[i - 1]] < urgency[size]) {
                waiting[i] = waiting[i - 1];
                i--;
            }
            waiting[i] = size;
            waitingSize++;
            size++;
            return size - 1;
        }

        int hearFirst(int many, int day) {
            int number = Math.min(many, waitingSize);
            for (int i = 0; i < number; i++) {
                heardOn[waiting[i]] = day;
            }
            for (int i = number; i < waitingSize; i++) {
                waiting[i - number] = waiting[i];
            }
            waitingSize -= number;
            return number;
        }

        int dayHeard(int number) {
            return number >= 0 && number < size ? heardOn[number] : NONE;
        }

        int inTurn(int i) {
            return i >= 0 && i < waitingSize ? waiting[i] : NONE;
        }
    }
}
