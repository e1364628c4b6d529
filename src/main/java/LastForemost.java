/** A church in which whoever comes last sits in front; see README.md. */
public final class LastForemost {
    public static final int NONE = -1, BAD = -2, NOT = -3, FULL = -4;

    private static final int MOST_PEOPLE = 7;
    private static final int MOST_RESTING = 6;
    private static final int MOST_BYTES = 40;
    private static final int MINUTES = 60;
    private static final int LAST_MINUTE = 59;
    private static final int MOST_LOVE = 20;
    private static final int MOST_FACTS = 8;
    private static final int MOST_SUNDAYS = 60;
    private static final int SHEETS = 4;
    private static final int MOST_ITEMS = 60;

    private static final int BELL = 0, LAW = 1, WIDE = 2, CARE = 3, SOAK = 4, STEP = 5;
    private static final int[] SETTINGS_AT_FIRST = {60, 0, 2, 2, 1, 5};
    private static final int[] SETTINGS_LEAST = {0, 0, 1, 0, 0, 1};
    private static final int[] SETTINGS_MOST = {60, 1, 4, 9, 9, 15};

    private static final int FINDING_NULL = 1, FINDING_INDEX = 2, FINDING_CAST = 3;
    private static final int FINDING_STORE = 4, FINDING_SIZE = 5;

    private static final int LEAST_INT = 1 << 31;
    private static final int ANY_NUMBER_BAD = -10000 + BAD;
    private static final long LONG_BAD = (1L << 63) - BAD;

    private final People people = new People();
    private final Rain rain = new Rain();
    private final Rules rules = new Rules();
    private final int[] waiting = new int[MOST_PEOPLE];
    private final int[] goingIn = new int[MOST_PEOPLE];
    private final Church church = new Church(people, rain, rules);
    private final Church otherChurch = new Church(people, rain, rules);
    private final Game resting = new Game(2);
    private final Game choosing = new Game(1);
    private final Facts facts = new Facts();
    private final Orders orders = new Orders();
    private final Sundays sundays = new Sundays();
    private final Sheet[] sheets = new Sheet[SHEETS];
    private int latestFinding = 0;
    private boolean restingKnown = false;
    private boolean choosingKnown = false;
    private boolean ordersKnown = false;

    public LastForemost() {
        for (int s = 0; s < SHEETS; s++) {
            sheets[s] = new Sheet();
        }
    }

    // ---- people, rain, law

    public int type(int b) {
        if (!within(b, 0, 255)) {
            return BAD;
        }
        if (people.length >= MOST_BYTES) {
            return FULL;
        }
        people.append(b);
        dropAnswers();
        return people.length;
    }

    public int wipe() {
        int had = people.length;
        people.clear();
        dropAnswers();
        return had;
    }

    public int fault() {
        return people.faultPlace;
    }

    public int person(int person, int what) {
        if (!isThere(person) || !within(what, 0, 3)) {
            return BAD;
        }
        int goes = minuteInside(person, waiting[person]);
        switch (what) {
            case 0:
                return people.minutes[person];
            case 1:
                return people.wishes[person];
            case 2:
                return goes;
            default:
                return rain.between(people.minutes[person], goes);
        }
    }

    public int waits(int person, int v) {
        if (!isNumber(person) || !within(v, 0, LAST_MINUTE)) {
            return BAD;
        }
        int before = waiting[person];
        waiting[person] = v;
        choosingKnown = false;
        return before;
    }

    public int rain(int minute, int v) {
        if (!within(minute, 0, LAST_MINUTE) || !within(v, 0, 1)) {
            return BAD;
        }
        int before = rain.between(minute, minute + 1);
        rain.turn(minute, v);
        dropAnswers();
        return before;
    }

    public int set(int what, int v) {
        if (!within(what, BELL, STEP) || !within(v, SETTINGS_LEAST[what], SETTINGS_MOST[what])) {
            return BAD;
        }
        int before = rules.settings[what];
        rules.settings[what] = v;
        dropAnswers();
        return before;
    }

    public int love(int a, int b, int v) {
        if (!isNumber(a) || !isNumber(b) || a == b || !within(v, 0, MOST_LOVE)) {
            return BAD;
        }
        int before = rules.loves[a][b];
        rules.loves[a][b] = v;
        rules.loves[b][a] = v;
        dropAnswers();
        return before;
    }

    public int read(int s) {
        if (!isSheet(s)) {
            return BAD;
        }
        Sheet sheet = sheets[s];
        if (sheet.isLost()) {
            return finding(FINDING_NULL);
        }
        int most = Math.min(sheet.size, MOST_PEOPLE);
        int taken = 0;
        while (taken < most && within(sheet.items[taken], 0, LAST_MINUTE)) {
            waiting[taken] = sheet.items[taken];
            taken++;
        }
        choosingKnown = false;
        return taken;
    }

    // ---- seats

    public int seat(int person) {
        if (!isThere(person)) {
            return BAD;
        }
        seatAll();
        return church.seats[person];
    }

    public int who(int seat) {
        if (!within(seat, 0, MOST_PEOPLE - 1)) {
            return BAD;
        }
        seatAll();
        return seat < church.taken ? church.sitters[seat] : NONE;
    }

    public int has(int person) {
        if (!isThere(person)) {
            return ANY_NUMBER_BAD;
        }
        seatAll();
        return church.worth(person, goingIn[person]);
    }

    public int best(int person, int what) {
        if (!isThere(person) || !within(what, 0, 1)) {
            return ANY_NUMBER_BAD;
        }
        gather();
        int bestWait = 0;
        int bestWorth = 0;
        // Nobody goes in behind the last minute, so waiting past it gives nothing new.
        for (int wait = 0; wait <= LAST_MINUTE - people.minutes[person]; wait++) {
            goingIn[person] = people.minutes[person] + wait;
            church.fill(goingIn, everybody(), rules.settings[LAW]);
            int worth = church.worth(person, goingIn[person]);
            if (wait == 0 || worth > bestWorth) {
                bestWait = wait;
                bestWorth = worth;
            }
        }
        return what == 0 ? bestWait : bestWorth;
    }

    public int rest(int person) {
        if (person != NONE && !isThere(person)) {
            return BAD;
        }
        if (people.count > MOST_RESTING) {
            return FULL;
        }
        findRest();
        if (person == NONE) {
            return resting.stableRows;
        }
        return resting.firstStable == NONE ? NONE : resting.choice(resting.firstStable, person);
    }

    public int change(int a, int b) {
        if (!isThere(a) || !isThere(b) || a == b) {
            return BAD;
        }
        seatAll();
        if (church.seats[a] == NONE || church.seats[b] == NONE) {
            return NOT;
        }
        return wouldChange(a, b) ? 1 : 0;
    }

    public int changes() {
        seatAll();
        int pairs = 0;
        for (int a = 0; a < people.count; a++) {
            for (int b = a + 1; b < people.count; b++) {
                if (church.seats[a] != NONE && church.seats[b] != NONE && wouldChange(a, b)) {
                    pairs++;
                }
            }
        }
        return pairs;
    }

    // ---- churches

    public int churches(int what) {
        if (!within(what, 0, 1)) {
            return BAD;
        }
        findChoosing();
        return what == 0 ? choosing.stableRows : choosing.firstStable;
    }

    // ---- who came when

    public int sat(int person, int seat) {
        if (!isNumber(person) || !within(seat, 0, MOST_PEOPLE - 1)) {
            return BAD;
        }
        return addFact(Facts.SAT_ON, person, seat);
    }

    public int front(int a, int b) {
        if (!isNumber(a) || !isNumber(b) || a == b) {
            return BAD;
        }
        return addFact(Facts.NEARER_FRONT, a, b);
    }

    public int forget() {
        int had = facts.size;
        facts.size = 0;
        ordersKnown = false;
        return had;
    }

    public int came(int person) {
        if (person != NONE && !isThere(person)) {
            return BAD;
        }
        findOrders();
        return person == NONE ? orders.howMany() : orders.placesOf(person);
    }

    public int sure() {
        findOrders();
        return orders.surePairs();
    }

    // ---- chances

    public long fair(int person, int what) {
        if (!isThere(person) || !within(what, 0, 1)) {
            return LONG_BAD;
        }
        int n = people.count;
        int others = Math.max(1, n - 1);
        int alone = 0;
        int pewMates = 0;
        for (int seat = 0; seat < n; seat++) {
            alone += rules.seatWorth(seat, people.wishes[person]);
            pewMates += rules.seatsBeside(seat, n);
        }
        int loved = 0;
        for (int other = 0; other < n; other++) {
            loved += rules.loves[person][other];
        }
        return lowestTerms(others * alone + pewMates * loved, n * others, what);
    }

    public int lot(int seed, int person) {
        if (!isThere(person)) {
            return BAD;
        }
        int state = seed;
        int taken = 0;
        int drawn = NONE;
        for (int p = 0; p <= person; p++) {
            state = 1103515245 * state + 12345;
            drawn = freeSeat(taken, (state >>> 16) % Math.max(1, people.count - p));
            taken |= 1 << drawn;
        }
        return drawn;
    }

    public int sunday(int person, int late) {
        if (!isNumber(person) || !within(late, 0, 1)) {
            return BAD;
        }
        if (sundays.all >= MOST_SUNDAYS) {
            return FULL;
        }
        sundays.add(person, late);
        return sundays.told[person];
    }

    public long late(int person, int what) {
        if (!isNumber(person) || !within(what, 0, 1)) {
            return LONG_BAD;
        }
        return lowestTerms(sundays.chanceAbove(person), sundays.chanceBelow(person), what);
    }

    public long allLate(int what) {
        if (!within(what, 0, 1)) {
            return LONG_BAD;
        }
        long above = 1;
        long below = 1;
        for (int p = 0; p < people.count; p++) {
            above *= sundays.chanceAbove(p);
            below *= sundays.chanceBelow(p);
        }
        return lowestTerms(above, below, what);
    }

    // ---- sheets

    public int sheet(int s, int form, int n) {
        if (!isSheet(s) || !isForm(form) || n > MOST_ITEMS) {
            return BAD;
        }
        if (n < 0) {
            return finding(FINDING_SIZE);
        }
        sheets[s].renew(form, n);
        return n;
    }

    public int lose(int s) {
        if (!isSheet(s)) {
            return BAD;
        }
        Sheet sheet = sheets[s];
        if (sheet.isLost()) {
            return finding(FINDING_NULL);
        }
        sheet.form = Sheet.LOST;
        return sheet.size;
    }

    public int lay(int s, int form, int i, int v) {
        if (!isSheet(s) || !isForm(form)) {
            return BAD;
        }
        int found = sheets[s].findingAt(form, i);
        if (found != 0) {
            return finding(found);
        }
        sheets[s].put(i, v);
        return 1;
    }

    public int get(int s, int form, int i) {
        if (!isSheet(s) || !isForm(form)) {
            return LEAST_INT;
        }
        int found = sheets[s].findingAt(form, i);
        if (found != 0) {
            latestFinding = found;
            return LEAST_INT;
        }
        return sheets[s].items[i];
    }

    public int copy(int s, int i, int t, int j, int n) {
        if (!isSheet(s) || !isSheet(t)) {
            return BAD;
        }
        Sheet from = sheets[s];
        Sheet to = sheets[t];
        if (from.isLost() || to.isLost()) {
            return finding(FINDING_NULL);
        }
        if (from.form != to.form) {
            return finding(FINDING_STORE);
        }
        if (!from.holds(i, n) || !to.holds(j, n)) {
            return finding(FINDING_INDEX);
        }
        System.arraycopy(from.items, i, to.items, j, n);
        return 1;
    }

    public int write(int s) {
        if (!isSheet(s)) {
            return BAD;
        }
        Sheet sheet = sheets[s];
        if (sheet.isLost()) {
            return finding(FINDING_NULL);
        }
        seatAll();
        int most = Math.min(sheet.size, people.count);
        for (int p = 0; p < most; p++) {
            sheet.put(p, church.seats[p]);
        }
        return most;
    }

    public int count(int what) {
        switch (what) {
            case 0:
                return people.count;
            case 1:
                return people.length;
            case 2:
                seatAll();
                return people.count - church.taken;
            case 3:
                return rain.between(0, MINUTES);
            case 4:
                return facts.size;
            case 5:
                return sundays.all;
            case 6:
                seatAll();
                return church.pewsTaken();
            case 7:
                return rules.settings[BELL];
            case 8:
                return latestFinding;
            default:
                return BAD;
        }
    }

    public long digest() {
        long h = 17;
        for (int what = 0; what <= 7; what++) {
            h = 31 * h + count(what);
        }
        h = 31 * h + fault();
        for (int p = 0; p < people.count; p++) {
            h = digestPerson(h, p);
        }
        for (int seat = 0; seat < MOST_PEOPLE; seat++) {
            h = 31 * h + who(seat);
        }
        h = 31 * h + rest(NONE);
        h = 31 * h + changes();
        h = 31 * h + churches(0);
        h = 31 * h + churches(1);
        h = 31 * h + came(NONE);
        h = 31 * h + sure();
        h = 31 * h + allLate(0);
        return 31 * h + allLate(1);
    }

    private long digestPerson(long start, int p) {
        long h = start;
        for (int what = 0; what <= 3; what++) {
            h = 31 * h + person(p, what);
        }
        h = 31 * h + seat(p);
        h = 31 * h + has(p);
        h = 31 * h + best(p, 0);
        h = 31 * h + best(p, 1);
        h = 31 * h + rest(p);
        h = 31 * h + came(p);
        h = 31 * h + fair(p, 0);
        h = 31 * h + fair(p, 1);
        h = 31 * h + late(p, 0);
        h = 31 * h + late(p, 1);
        return 31 * h + lot(7, p);
    }

    // ---- what is allowed

    private static boolean within(int v, int least, int most) {
        return v >= least && v <= most;
    }

    private static boolean isNumber(int person) {
        return within(person, 0, MOST_PEOPLE - 1);
    }

    private static boolean isSheet(int s) {
        return within(s, 0, SHEETS - 1);
    }

    private static boolean isForm(int form) {
        return within(form, Sheet.BYTES, Sheet.INTS);
    }

    private boolean isThere(int person) {
        return within(person, 0, people.count - 1);
    }

    private int finding(int number) {
        latestFinding = number;
        return -10 - number;
    }

    // ---- seating

    /**
     * The dear answers are kept till something changes on which they stand. Waiting as told
     * bears on the choice of churches alone, facts bear on the orders alone.
     */
    private void dropAnswers() {
        restingKnown = false;
        choosingKnown = false;
        ordersKnown = false;
    }

    private int minuteInside(int person, int wait) {
        return Math.min(LAST_MINUTE, people.minutes[person] + wait);
    }

    private void gather() {
        for (int p = 0; p < people.count; p++) {
            goingIn[p] = minuteInside(p, waiting[p]);
        }
    }

    private void seatAll() {
        gather();
        church.fill(goingIn, everybody(), rules.settings[LAW]);
    }

    private int everybody() {
        return (1 << people.count) - 1;
    }

    /** Both must sit in the church as it is filled now; it is left as it was. */
    private boolean wouldChange(int a, int b) {
        int hadA = church.worth(a, goingIn[a]);
        int hadB = church.worth(b, goingIn[b]);
        church.swap(a, b);
        boolean better = church.worth(a, goingIn[a]) > hadA && church.worth(b, goingIn[b]) > hadB;
        church.swap(a, b);
        return better;
    }

    private void findRest() {
        if (restingKnown) {
            return;
        }
        int n = people.count;
        resting.open(n, true);
        for (int row = 0; row < resting.rows; row++) {
            waitByRow(row);
            church.fill(goingIn, everybody(), rules.settings[LAW]);
            for (int p = 0; p < n; p++) {
                resting.note(row, p, church.worth(p, goingIn[p]));
            }
        }
        resting.settle();
        restingKnown = true;
    }

    /** From one row to the next only the last choices change, down to one that is not 0. */
    private void waitByRow(int row) {
        for (int p = people.count - 1; p >= 0; p--) {
            int steps = resting.choice(row, p);
            goingIn[p] = minuteInside(p, rules.settings[STEP] * steps);
            if (steps != 0) {
                return;
            }
        }
    }

    private void findChoosing() {
        if (choosingKnown) {
            return;
        }
        gather();
        int n = people.count;
        choosing.open(n, false);
        for (int way = 0; way < choosing.rows; way++) {
            church.fill(goingIn, everybody() & ~way, 0);
            otherChurch.fill(goingIn, way, 1);
            for (int p = 0; p < n; p++) {
                Church own = choosing.choice(way, p) == 0 ? church : otherChurch;
                choosing.note(way, p, own.worth(p, goingIn[p]));
            }
        }
        choosing.settle();
        choosingKnown = true;
    }

    // ---- facts and chances

    private int addFact(int kind, int person, int other) {
        if (facts.size >= MOST_FACTS) {
            return FULL;
        }
        facts.add(kind, person, other);
        ordersKnown = false;
        return facts.size;
    }

    private void findOrders() {
        if (!ordersKnown) {
            orders.find(facts, people.count, rules.settings[LAW]);
            ordersKnown = true;
        }
    }

    private static int freeSeat(int taken, int passedOver) {
        int left = passedOver;
        for (int seat = 0; seat < MOST_PEOPLE; seat++) {
            if ((taken >> seat & 1) == 0) {
                if (left == 0) {
                    return seat;
                }
                left--;
            }
        }
        return 0;
    }

    private static long lowestTerms(long above, long below, int what) {
        long divisor = Math.max(1, commonDivisor(Math.abs(above), below));
        return (what == 0 ? above : below) / divisor;
    }

    private static long commonDivisor(long a, long b) {
        long x = a;
        long y = b;
        // Euclid needs under a hundred steps for any two longs.
        for (int step = 0; step < 100 && y != 0; step++) {
            long left = x % y;
            x = y;
            y = left;
        }
        return x;
    }

    /** The text, and who is there by it. */
    private static final class People {
        private static final int PER_PERSON = 4;

        final int[] text = new int[MOST_BYTES];
        final int[] minutes = new int[MOST_PEOPLE];
        final int[] wishes = new int[MOST_PEOPLE];
        int length = 0;
        int count = 0;
        int faultPlace = NONE;

        void append(int b) {
            if (length < MOST_BYTES) {
                text[length] = b;
                length++;
                understand();
            }
        }

        void clear() {
            length = 0;
            understand();
        }

        private void understand() {
            faultPlace = findFault();
            count = faultPlace == NONE ? (length + 1) / PER_PERSON : 0;
            for (int p = 0; p < count; p++) {
                minutes[p] = 10 * figure(PER_PERSON * p) + figure(PER_PERSON * p + 1);
                wishes[p] = figure(PER_PERSON * p + 2);
            }
        }

        private int findFault() {
            for (int i = 0; i < length; i++) {
                if (i >= PER_PERSON * MOST_PEOPLE || !fits(text[i], i % PER_PERSON)) {
                    return i;
                }
            }
            boolean ended = length == 0 || length % PER_PERSON == PER_PERSON - 1;
            return ended ? NONE : length;
        }

        private static boolean fits(int b, int column) {
            switch (column) {
                case 0:
                    return within(b, '0', '5');
                case 1:
                    return within(b, '0', '9');
                case 2:
                    return within(b, '0', '6');
                default:
                    return b == ';';
            }
        }

        private int figure(int place) {
            return text[place] - '0';
        }
    }

    /** Held as sums, for REST asks how wet one gets some twenty thousand times. */
    private static final class Rain {
        private final int[] fallenAhead = new int[MINUTES + 1];

        int between(int from, int until) {
            return fallenAhead[until] - fallenAhead[from];
        }

        void turn(int minute, int v) {
            int more = v - between(minute, minute + 1);
            for (int m = minute + 1; m <= MINUTES; m++) {
                fallenAhead[m] += more;
            }
        }
    }

    /** What is set by hand for all churches alike. */
    private static final class Rules {
        final int[] settings = SETTINGS_AT_FIRST.clone();
        final int[][] loves = new int[MOST_PEOPLE][MOST_PEOPLE];

        int seatWorth(int seat, int wish) {
            return 20 - settings[CARE] * Math.abs(seat - wish);
        }

        int wide() {
            return Math.max(1, settings[WIDE]);
        }

        int seatsBeside(int seat, int seats) {
            int start = seat - seat % wide();
            return Math.min(seats - start, wide()) - 1;
        }
    }

    /** Who sits where in one church. */
    private static final class Church {
        private final People people;
        private final Rain rain;
        private final Rules rules;
        final int[] seats = new int[MOST_PEOPLE];
        final int[] sitters = new int[MOST_PEOPLE];
        int taken = 0;

        Church(People people, Rain rain, Rules rules) {
            this.people = people;
            this.rain = rain;
            this.rules = rules;
        }

        void fill(int[] goingIn, int members, int law) {
            taken = 0;
            for (int p = 0; p < people.count; p++) {
                seats[p] = NONE;
                if ((members >> p & 1) == 1 && goingIn[p] < rules.settings[BELL]) {
                    takeIn(p, goingIn, law);
                }
            }
            for (int seat = 0; seat < taken; seat++) {
                seats[sitters[seat]] = seat;
            }
        }

        /** People come by number, so of like minutes p is the last yet. */
        private void takeIn(int p, int[] goingIn, int law) {
            int seat = taken;
            while (seat > 0 && movesUp(goingIn[sitters[seat - 1]], goingIn[p], law)) {
                sitters[seat] = sitters[seat - 1];
                seat--;
            }
            sitters[seat] = p;
            taken++;
        }

        private static boolean movesUp(int sitterMinute, int newMinute, int law) {
            return law == 0 ? sitterMinute > newMinute : sitterMinute <= newMinute;
        }

        int worth(int p, int goesIn) {
            int soaked = rules.settings[SOAK] * rain.between(people.minutes[p], goesIn);
            int seat = seats[p];
            if (seat == NONE) {
                return -soaked;
            }
            return rules.seatWorth(seat, people.wishes[p]) + loveBeside(p, seat) - soaked;
        }

        private int loveBeside(int p, int seat) {
            int wide = Math.max(1, rules.settings[WIDE]);
            int start = seat - seat % wide;
            int sum = 0;
            for (int other = start; other < start + wide && other < taken; other++) {
                // One's own seat may be counted too: nobody has love for oneself.
                sum += rules.loves[p][sitters[other]];
            }
            return sum;
        }

        void swap(int a, int b) {
            int seatA = seats[a];
            int seatB = seats[b];
            if (seatA == NONE || seatB == NONE) {
                return;
            }
            seats[a] = seatB;
            seats[b] = seatA;
            sitters[seatA] = b;
            sitters[seatB] = a;
        }

        int pewsTaken() {
            return (taken + rules.wide() - 1) / rules.wide();
        }
    }

    /** Rows of one choice for each, and those rows that none would leave alone. */
    private static final class Game {
        private final int bits;
        private final int lastChoice;
        private final int[] shifts = new int[MOST_PEOPLE];
        private int players = 0;
        private int[] worths = new int[0];
        int rows = 1;
        int stableRows = 0;
        int firstStable = NONE;

        Game(int bits) {
            this.bits = bits;
            this.lastChoice = (1 << bits) - 1;
        }

        /** The first of the players leads where rows are put in order by numbers. */
        void open(int players, boolean firstLeads) {
            this.players = players;
            for (int p = 0; p < players; p++) {
                shifts[p] = bits * (firstLeads ? players - 1 - p : p);
            }
            rows = 1 << (bits * players);
            if (worths.length < rows * players) {
                worths = new int[rows * players];
            }
        }

        int choice(int row, int player) {
            return (row >> shifts[player]) & lastChoice;
        }

        void note(int row, int player, int worth) {
            worths[row * players + player] = worth;
        }

        void settle() {
            stableRows = 0;
            firstStable = NONE;
            for (int row = 0; row < rows; row++) {
                if (isStable(row)) {
                    if (stableRows == 0) {
                        firstStable = row;
                    }
                    stableRows++;
                }
            }
        }

        private boolean isStable(int row) {
            for (int p = 0; p < players; p++) {
                if (wouldLeave(row, p)) {
                    return false;
                }
            }
            return true;
        }

        private boolean wouldLeave(int row, int player) {
            int now = worths[row * players + player];
            int shift = shifts[player];
            int without = row & ~(lastChoice << shift);
            for (int c = 0; c <= lastChoice; c++) {
                int instead = without | (c << shift);
                if (worths[instead * players + player] > now) {
                    return true;
                }
            }
            return false;
        }
    }

    /** What is told of who sat where. */
    private static final class Facts {
        static final int SAT_ON = 0, NEARER_FRONT = 1;

        final int[] kinds = new int[MOST_FACTS];
        final int[] persons = new int[MOST_FACTS];
        final int[] others = new int[MOST_FACTS];
        int size = 0;

        void add(int kind, int person, int other) {
            if (size < MOST_FACTS) {
                kinds[size] = kind;
                persons[size] = person;
                others[size] = other;
                size++;
            }
        }
    }

    /**
     * The orders that fit the facts, by sets of those who have come: whether one may come
     * next hangs on who has come, not on their order, so 128 sets stand for 5040 orders.
     */
    private static final class Orders {
        private static final int SETS = 1 << MOST_PEOPLE;

        private final int[] waysTo = new int[SETS];
        private final int[] waysOn = new int[SETS];
        private final int[] ahead = new int[MOST_PEOPLE];
        private final int[] places = new int[MOST_PEOPLE];
        private int n = 0;
        private int all = 0;

        void find(Facts facts, int people, int law) {
            n = people;
            all = (1 << n) - 1;
            for (int p = 0; p < n; p++) {
                ahead[p] = 0;
                places[p] = all;
            }
            boolean possible = true;
            for (int f = 0; f < facts.size; f++) {
                possible = heed(facts.kinds[f], facts.persons[f], facts.others[f], law) && possible;
            }
            countWaysTo(possible);
            countWaysOn();
        }

        /** Whether all whom the fact names are there. */
        private boolean heed(int kind, int person, int other, int law) {
            if (person >= n) {
                return false;
            }
            if (kind == Facts.SAT_ON) {
                int place = law == 0 ? other : n - 1 - other;
                places[person] &= within(place, 0, n - 1) ? 1 << place : 0;
                return true;
            }
            if (other >= n) {
                return false;
            }
            if (law == 0) {
                ahead[person] |= 1 << other;
            } else {
                ahead[other] |= 1 << person;
            }
            return true;
        }

        private boolean mayCome(int p, int come) {
            return (come >> p & 1) == 0
                && (ahead[p] & ~come) == 0
                && (places[p] >> Integer.bitCount(come) & 1) == 1;
        }

        private void countWaysTo(boolean possible) {
            for (int come = 0; come <= all; come++) {
                waysTo[come] = 0;
            }
            waysTo[0] = possible ? 1 : 0;
            for (int come = 0; come <= all; come++) {
                for (int p = 0; p < n; p++) {
                    if (waysTo[come] > 0 && mayCome(p, come)) {
                        waysTo[come | 1 << p] += waysTo[come];
                    }
                }
            }
        }

        private void countWaysOn() {
            waysOn[all] = 1;
            for (int come = all - 1; come >= 0; come--) {
                waysOn[come] = 0;
                for (int p = 0; p < n; p++) {
                    if (mayCome(p, come)) {
                        waysOn[come] += waysOn[come | 1 << p];
                    }
                }
            }
        }

        int howMany() {
            return waysTo[all];
        }

        int placesOf(int person) {
            int bits = 0;
            for (int come = 0; come <= all; come++) {
                if (waysTo[come] > 0 && mayCome(person, come) && waysOn[come | 1 << person] > 0) {
                    bits |= 1 << Integer.bitCount(come);
                }
            }
            return bits;
        }

        int surePairs() {
            int pairs = 0;
            for (int a = 0; a < n; a++) {
                for (int b = a + 1; b < n; b++) {
                    // With no order at all neither can be first, and no pair is sure.
                    if (canBeFirst(a, b) != canBeFirst(b, a)) {
                        pairs++;
                    }
                }
            }
            return pairs;
        }

        private boolean canBeFirst(int a, int b) {
            for (int come = 0; come <= all; come++) {
                boolean between = (come >> a & 1) == 1 && (come >> b & 1) == 0;
                if (between && waysTo[come] > 0 && waysOn[come] > 0) {
                    return true;
                }
            }
            return false;
        }
    }

    /** How often each was late. */
    private static final class Sundays {
        final int[] told = new int[MOST_PEOPLE];
        private final int[] lates = new int[MOST_PEOPLE];
        int all = 0;

        void add(int person, int late) {
            told[person]++;
            lates[person] += late;
            all++;
        }

        int chanceAbove(int person) {
            return lates[person] + 1;
        }

        int chanceBelow(int person) {
            return told[person] + 2;
        }
    }

    /** One row of items, made once and used again for every new sheet. */
    private static final class Sheet {
        static final int LOST = -1, BYTES = 0, SHORTS = 1, INTS = 2;

        final int[] items = new int[MOST_ITEMS];
        int form = LOST;
        int size = 0;

        boolean isLost() {
            return form == LOST;
        }

        void renew(int newForm, int newSize) {
            form = newForm;
            size = newSize;
            for (int i = 0; i < MOST_ITEMS; i++) {
                items[i] = 0;
            }
        }

        int findingAt(int asForm, int i) {
            if (isLost()) {
                return FINDING_NULL;
            }
            if (asForm != form) {
                return FINDING_CAST;
            }
            return within(i, 0, size - 1) ? 0 : FINDING_INDEX;
        }

        boolean holds(int from, int many) {
            return from >= 0 && many >= 0 && from <= size && many <= size - from;
        }

        void put(int i, int v) {
            if (form == BYTES) {
                items[i] = (byte) v;
            } else if (form == SHORTS) {
                items[i] = (short) v;
            } else {
                items[i] = v;
            }
        }
    }
}
