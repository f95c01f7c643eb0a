import java.util.Arrays;

/** The book of the watch of four wards, as ../shared/DOC.md promises it. */
public final class WardWatch {
    public static final int NONE = -1;
    public static final int RANGE = -2;
    public static final int FULL = -3;

    private static final int NONE_SUCH = -9;
    private static final int COURTS = 12;
    private static final int WARDS = 4;
    private static final int POWERS = 3;
    private static final int HOURS = 24;
    private static final int MOST_WITHIN = 999;
    private static final int MOST_WAY = 99;
    private static final int MOST_CRY = 999;
    private static final int FED_BYTES = 20;
    private static final int FIRST_BIRTH = 1500;
    private static final int FIRST_YEAR = 1600;
    private static final int LAST_YEAR = 1799;
    private static final int MOST_GIFT = 100000;
    private static final int MOST_PURSE = 1000000;
    private static final int SERVE = 0;
    private static final int HIRE = 1;
    private static final int PAY = 2;
    private static final int UNLAWFUL_OWES = 5;
    private static final int MOST_IN_TABLE = 15;
    private static final int BEYOND_DOUBT = 20;

    private final Tape tape = new Tape();
    private final Town town = new Town();
    private final Planner planner = new Planner();
    private final LawReader reader = new LawReader(tape);
    private final Ward[] wards = new Ward[WARDS];
    private final Roll roll = new Roll();
    private final Nights nights = new Nights();
    private final Flight flight = new Flight();
    // Texts are read into this one, so that a fault leaves the ward's own laws alone.
    private Laws draft = new Laws();

    public WardWatch() {
        for (int w = 0; w < WARDS; w++) {
            wards[w] = new Ward();
        }
    }

    // ---- the tape

    public int feed(int a, int b, int c, int d, int e) {
        if (!tape.hasRoomFor(FED_BYTES)) {
            return FULL;
        }
        tape.append(a);
        tape.append(b);
        tape.append(c);
        tape.append(d);
        tape.append(e);
        return tape.length();
    }

    public int end(int n) {
        if (n < 0 || n > tape.length()) {
            return NONE;
        }
        tape.cut(n);
        return n;
    }

    // ---- courts, rounds

    public int court(int c, int ward, int within) {
        if (!isCourt(c) || !isWard(ward) || !isFrom(within, 1, MOST_WITHIN)) {
            return RANGE;
        }
        town.place(c, ward, within);
        return 1;
    }

    public int way(int c, int d, int minutes) {
        boolean canBe = minutes == NONE || isFrom(minutes, 1, MOST_WAY);
        if (!isCourt(c) || !isCourt(d) || c == d || !canBe) {
            return RANGE;
        }
        int before = town.minutesOfWay(c, d);
        town.setWay(c, d, minutes);
        return before;
    }

    public int far(int c, int d) {
        if (!isCourt(c) || !isCourt(d)) {
            return RANGE;
        }
        return town.leastMinutes(c, d);
    }

    public int rounds(int set) {
        if (set < 1 || set >= 1 << COURTS) {
            return RANGE;
        }
        if (Integer.bitCount(set) > Planner.MOST) {
            return FULL;
        }
        return planner.plan(set, town);
    }

    public int round(int what) {
        return planner.tell(what);
    }

    public int cry(int c, int minutes) {
        if (!isCourt(c) || !isFrom(minutes, 0, MOST_CRY)) {
            return RANGE;
        }
        int heard = 0;
        for (int d = 0; d < COURTS; d++) {
            int least = town.leastMinutes(c, d);
            if (least != NONE && least <= minutes) {
                heard |= 1 << d;
            }
        }
        return heard;
    }

    // ---- laws

    public int laws(int ward) {
        // A text for no such ward is emptied unread, so that the latest fault stays.
        int lines = RANGE;
        if (isWard(ward)) {
            lines = reader.read(draft);
            if (lines != NONE) {
                enactDraft(wards[ward]);
            }
        }
        tape.cut(0);
        return lines;
    }

    /** The two change places, so that no text needs new objects. */
    private void enactDraft(Ward ward) {
        Laws told = draft;
        draft = ward.laws;
        ward.laws = told;
    }

    public int fault(int what) {
        switch (what) {
            case 0: return reader.faultKind();
            case 1: return reader.faultPlace();
            default: return NONE;
        }
    }

    public int law(int ward, int what) {
        return isWard(ward) ? wards[ward].laws.tell(what) : NONE_SUCH;
    }

    public int may(int ward, int power, int hour, boolean cried) {
        if (!isTaking(ward, power, hour)) {
            return RANGE;
        }
        return wards[ward].laws.gives(power, hour, cried) ? 1 : 0;
    }

    // ---- rolls

    public int house(int ward, int born) {
        if (!isWard(ward) || !isFrom(born, FIRST_BIRTH, LAST_YEAR)) {
            return RANGE;
        }
        return roll.add(ward, born);
    }

    public int purse(int h, int pence) {
        House house = roll.find(h);
        if (house == null || !isFrom(pence, 1, MOST_GIFT) || house.purse + pence > MOST_PURSE) {
            return RANGE;
        }
        house.purse += pence;
        return house.purse;
    }

    public int would(int h, int what) {
        House house = roll.find(h);
        if (house == null || !isFrom(what, SERVE, PAY)) {
            return RANGE;
        }
        int before = house.would;
        house.would = what;
        return before;
    }

    public int fill(int ward, int year) {
        if (!isWard(ward)) {
            return RANGE;
        }
        int next = wards[ward].nextYear(year);
        return next == NONE ? RANGE : roll.fillYear(ward, wards[ward], next);
    }

    public int year(int ward, int year, int what) {
        return isWard(ward) ? wards[ward].tellYear(year, what) : NONE_SUCH;
    }

    public int about(int h, int what) {
        House house = roll.find(h);
        return house == null ? NONE : house.tell(what);
    }

    // ---- nights

    public int charge(int ward, int power, int hour, boolean cried) {
        if (!isTaking(ward, power, hour)) {
            return RANGE;
        }
        if (nights.isFull()) {
            return FULL;
        }
        return nights.take(new Charge(ward, power, hour), wards, cried);
    }

    public int charged(int k, int what) {
        Charge charge = nights.find(k);
        return charge == null ? NONE : charge.tell(what);
    }

    public int morning() {
        for (int w = 0; w < WARDS; w++) {
            wards[w].lying = 0;
        }
        return nights.bringAll();
    }

    public int flee(boolean cried) {
        int courts = flight.read(tape, town) ? flight.run(town, wards, cried) : NONE;
        tape.cut(0);
        return courts;
    }

    public int fled(int what) {
        return flight.tell(what);
    }

    // ---- robberies

    public long doubt(int walkedRobbed, int walkedNot, int otherRobbed, int otherNot, int what) {
        if (!isInTable(walkedRobbed) || !isInTable(walkedNot) || !isInTable(otherRobbed)
                || !isInTable(otherNot) || !isFrom(what, 0, 2)) {
            return RANGE;
        }
        int walked = walkedRobbed + walkedNot;
        int other = otherRobbed + otherNot;
        int robbed = walkedRobbed + otherRobbed;
        if (walked + other == 0) {
            return RANGE;
        }
        long all = waysToChoose(walked + other, robbed);
        long asFew = 0;
        for (int i = 0; i <= walkedRobbed; i++) {
            asFew += waysToChoose(walked, i) * waysToChoose(other, robbed - i);
        }
        if (what == 2) {
            return BEYOND_DOUBT * asFew <= all ? 1 : 0;
        }
        return (what == 0 ? asFew : all) / greatestCommonPart(asFew, all);
    }

    public int count(int what) {
        switch (what) {
            case 0: return roll.size();
            case 1: return nights.size();
            case 2: return tape.length();
            default: break;
        }
        if (isFrom(what, 10, 10 + WARDS - 1)) {
            return wards[what - 10].chest;
        }
        if (isFrom(what, 20, 20 + WARDS - 1)) {
            return wards[what - 20].lying;
        }
        if (isFrom(what, 30, 30 + WARDS - 1)) {
            return wards[what - 30].latestYear;
        }
        return NONE;
    }

    private static boolean isFrom(int n, int least, int most) {
        return n >= least && n <= most;
    }

    private static boolean isCourt(int c) {
        return isFrom(c, 0, COURTS - 1);
    }

    private static boolean isWard(int w) {
        return isFrom(w, 0, WARDS - 1);
    }

    private static boolean isTaking(int ward, int power, int hour) {
        return isWard(ward) && isFrom(power, 0, POWERS - 1) && isFrom(hour, 0, HOURS - 1);
    }

    private static boolean isInTable(int n) {
        return isFrom(n, 0, MOST_IN_TABLE);
    }

    /** In how many ways so many of n (at most 60) are chosen; every step stays within a long. */
    private static long waysToChoose(int n, int chosen) {
        if (chosen < 0 || chosen > n) {
            return 0;
        }
        int fewer = Math.min(chosen, n - chosen);
        long ways = 1;
        for (int i = 1; i <= fewer; i++) {
            ways = ways * (n - fewer + i) / i;
        }
        return ways;
    }

    /** Of two numbers above 0; a hundred steps are more than two longs can need. */
    private static long greatestCommonPart(long a, long b) {
        long greater = a;
        long less = b;
        for (int i = 0; i < 100 && less > 0; i++) {
            long left = greater % less;
            greater = less;
            less = left;
        }
        return Math.max(greater, 1);
    }

    /** THE TAPE. */
    private static final class Tape {
        static final int PAST_END = -1;
        private static final int ROOM = 800;

        private final byte[] bytes = new byte[ROOM];
        private int length;

        int length() {
            return length;
        }

        boolean hasRoomFor(int more) {
            return length + more <= ROOM;
        }

        void append(int four) {
            for (int shift = 24; shift >= 0 && length < ROOM; shift -= 8) {
                bytes[length] = (byte) (four >> shift);
                length++;
            }
        }

        void cut(int n) {
            length = n;
        }

        /** The byte (0 .. 255) at a place, PAST_END behind the last one. */
        int at(int place) {
            return place >= 0 && place < length ? bytes[place] & 255 : PAST_END;
        }
    }

    /** The courts and the ways between them. */
    private static final class Town {
        private static final int FIRST_WITHIN = 60;

        private final int[] wardOf = new int[COURTS];
        private final int[] withinOf = new int[COURTS];
        private final int[] ways = new int[COURTS * COURTS];
        private final int[] fars = new int[COURTS * COURTS];
        // FAR is worked out only when it is asked for behind a change of ways.
        private boolean stale = true;

        Town() {
            Arrays.fill(withinOf, FIRST_WITHIN);
            Arrays.fill(ways, NONE);
        }

        void place(int c, int ward, int within) {
            wardOf[c] = ward;
            withinOf[c] = within;
        }

        int wardAt(int c) {
            return wardOf[c];
        }

        int withinAt(int c) {
            return withinOf[c];
        }

        int minutesOfWay(int c, int d) {
            return ways[c * COURTS + d];
        }

        void setWay(int c, int d, int minutes) {
            ways[c * COURTS + d] = minutes;
            ways[d * COURTS + c] = minutes;
            stale = true;
        }

        /** FAR, or NONE. */
        int leastMinutes(int c, int d) {
            if (stale) {
                measure();
                stale = false;
            }
            return fars[c * COURTS + d];
        }

        private void measure() {
            System.arraycopy(ways, 0, fars, 0, COURTS * COURTS);
            for (int c = 0; c < COURTS; c++) {
                fars[c * COURTS + c] = 0;
            }
            for (int by = 0; by < COURTS; by++) {
                for (int c = 0; c < COURTS; c++) {
                    shortenFrom(c, by);
                }
            }
        }

        private void shortenFrom(int c, int by) {
            int first = fars[c * COURTS + by];
            if (first == NONE) {
                return;
            }
            for (int d = 0; d < COURTS; d++) {
                int second = fars[by * COURTS + d];
                int known = fars[c * COURTS + d];
                if (second != NONE && (known == NONE || first + second < known)) {
                    fars[c * COURTS + d] = first + second;
                }
            }
        }
    }

    /**
     * ROUNDS. The courts of the set are its places 0 .. n - 1 by number; parts are bits of places.
     * A plan of a part's places is one long, so that the lesser long is the better plan: men, then
     * the sum of lengths, then the row, four bits a place with the first place highest.
     */
    private static final class Planner {
        static final int MOST = 10;
        private static final int PARTS = 1 << MOST;
        private static final int OTHERS = MOST - 1;
        private static final int ROW_BITS = 4;
        private static final int SUM_SHIFT = ROW_BITS * MOST;
        private static final int SUM_BITS = 14;
        private static final int MEN_SHIFT = SUM_SHIFT + SUM_BITS;
        private static final long ONE_MAN = 1L << MEN_SHIFT;
        // Above every WITHIN, and ten of it are still an int.
        private static final int TOO_FAR = 100000;

        private final int[] courts = new int[MOST];
        private final int[] steps = new int[MOST * MOST];
        private final int[] paths = new int[(1 << OTHERS) * OTHERS];
        private final int[] tours = new int[PARTS];
        private final long[] plans = new long[PARTS];
        // Of each part the row in which each of its places has man 1.
        private final long[] ones = new long[PARTS];
        private int places;

        private int men;
        private int sum;
        private final int[] manOf = new int[COURTS];
        private final int[] lengths = new int[MOST];
        private final int[] courtsOf = new int[MOST];

        Planner() {
            for (int part = 1; part < PARTS; part++) {
                int lowest = Integer.numberOfTrailingZeros(part);
                ones[part] = ones[part & (part - 1)] | 1L << rowShift(lowest);
            }
        }

        /** Plans a set of 1 .. MOST courts: how many men. */
        int plan(int set, Town town) {
            listCourts(set);
            measureSteps(town);
            for (int home = 0; home < places; home++) {
                measureTours(home, town);
            }
            joinParts();
            keepPlan(plans[(1 << places) - 1]);
            return men;
        }

        int tell(int what) {
            if (men == 0) {
                return NONE_SUCH;
            }
            if (what == 0) {
                return sum;
            }
            if (isFrom(what, 10, 10 + COURTS - 1)) {
                return manOf[what - 10];
            }
            if (isFrom(what, 30, 30 + men - 1)) {
                return lengths[what - 30];
            }
            return isFrom(what, 50, 50 + men - 1) ? courtsOf[what - 50] : NONE_SUCH;
        }

        private static int rowShift(int place) {
            return ROW_BITS * (MOST - 1 - place);
        }

        private void listCourts(int set) {
            places = 0;
            for (int c = 0; c < COURTS && places < MOST; c++) {
                if ((set >> c & 1) == 1) {
                    courts[places] = c;
                    places++;
                }
            }
        }

        private void measureSteps(Town town) {
            for (int i = 0; i < places; i++) {
                for (int j = 0; j < places; j++) {
                    int least = town.leastMinutes(courts[i], courts[j]);
                    steps[i * MOST + j] = least == NONE ? TOO_FAR : least;
                }
            }
        }

        /** The shortest tour of each part whose lowest place is home, TOO_FAR if it may not be. */
        private void measureTours(int home, Town town) {
            tours[1 << home] = 0;
            int others = places - 1 - home;
            for (int seen = 1; seen < 1 << others; seen++) {
                int part = (seen << 1 | 1) << home;
                int length = shortestTour(home, others, seen);
                tours[part] = length <= leastWithin(part, town) ? length : TOO_FAR;
            }
        }

        /** Places above home are counted from the one behind it; paths of fewer places come first. */
        private int shortestTour(int home, int others, int seen) {
            int shortest = TOO_FAR;
            for (int last = 0; last < others; last++) {
                if ((seen >> last & 1) == 1) {
                    int path = shortestPath(home, others, seen & ~(1 << last), last);
                    paths[seen * OTHERS + last] = path;
                    shortest = Math.min(shortest, path + steps[(home + 1 + last) * MOST + home]);
                }
            }
            return shortest;
        }

        /** From home through all those seen to the last one. */
        private int shortestPath(int home, int others, int seen, int last) {
            int to = home + 1 + last;
            if (seen == 0) {
                return steps[home * MOST + to];
            }
            int shortest = TOO_FAR;
            for (int by = 0; by < others; by++) {
                if ((seen >> by & 1) == 1) {
                    int path = paths[seen * OTHERS + by] + steps[(home + 1 + by) * MOST + to];
                    shortest = Math.min(shortest, path);
                }
            }
            return shortest;
        }

        private int leastWithin(int part, Town town) {
            int least = MOST_WITHIN;
            for (int i = 0; i < places; i++) {
                if ((part >> i & 1) == 1) {
                    least = Math.min(least, town.withinAt(courts[i]));
                }
            }
            return least;
        }

        private void joinParts() {
            for (int part = 1; part < 1 << places; part++) {
                plans[part] = bestPlan(part);
            }
        }

        /**
         * Man 0 takes the lowest place and some others; those left keep their own best plan with
         * each man one higher, which keeps the order of their rows.
         */
        private long bestPlan(int part) {
            int others = part & (part - 1);
            long best = Long.MAX_VALUE;
            // Each subset of the others once, every one a lesser number than the one before it.
            int left = others;
            for (int tried = 0; tried < PARTS && left >= 0; tried++) {
                int tour = tours[part ^ left];
                if (tour != TOO_FAR) {
                    long plan = plans[left] + ones[left] + ONE_MAN + ((long) tour << SUM_SHIFT);
                    best = Math.min(best, plan);
                }
                left = left == 0 ? NONE : (left - 1) & others;
            }
            return best;
        }

        private void keepPlan(long plan) {
            men = (int) (plan >> MEN_SHIFT);
            sum = (int) (plan >> SUM_SHIFT) & ((1 << SUM_BITS) - 1);
            Arrays.fill(manOf, NONE);
            Arrays.fill(courtsOf, 0);
            for (int man = 0; man < men && man < MOST; man++) {
                lengths[man] = tours[keepPartOf(man, plan)];
            }
        }

        /** The places of a man, whose courts are written down as his. */
        private int keepPartOf(int man, long plan) {
            int part = 0;
            for (int i = 0; i < places; i++) {
                int manOfPlace = (int) (plan >> rowShift(i)) & ((1 << ROW_BITS) - 1);
                if (manOfPlace == man) {
                    part |= 1 << i;
                    manOf[courts[i]] = man;
                    courtsOf[man] |= 1 << courts[i];
                }
            }
            return part;
        }
    }

    /** The laws of one ward. */
    private static final class Laws {
        static final int MOST_POWERS = 12;

        private int ageFrom;
        private int ageTo;
        private int leave;
        private int fine;
        private int hire;
        private int follow;
        private boolean followNeedsCry;
        private int lockup;
        private int powers;
        private final int[] power = new int[MOST_POWERS];
        private final int[] from = new int[MOST_POWERS];
        private final int[] to = new int[MOST_POWERS];
        private final boolean[] needsCry = new boolean[MOST_POWERS];

        Laws() {
            forget();
        }

        /** As if nothing were told. */
        void forget() {
            ageFrom = 21;
            ageTo = 60;
            leave = 7;
            fine = 100;
            hire = NONE;
            follow = NONE;
            followNeedsCry = false;
            lockup = 4;
            powers = 0;
        }

        boolean hasRoomForPower() {
            return powers < MOST_POWERS;
        }

        void addPower(int given, int fromHour, int toHour, boolean withCry) {
            if (hasRoomForPower()) {
                power[powers] = given;
                from[powers] = fromHour;
                to[powers] = toHour;
                needsCry[powers] = withCry;
                powers++;
            }
        }

        int tell(int what) {
            switch (what) {
                case 0: return ageFrom;
                case 1: return ageTo;
                case 2: return leave;
                case 3: return fine;
                case 4: return hire;
                case 5: return follow;
                case 6: return followNeedsCry ? 1 : 0;
                case 7: return lockup;
                case 8: return powers;
                default: return NONE_SUCH;
            }
        }

        boolean gives(int asked, int hour, boolean cried) {
            for (int i = 0; i < powers; i++) {
                if (power[i] == asked && hasHour(i, hour) && (cried || !needsCry[i])) {
                    return true;
                }
            }
            return false;
        }

        private boolean hasHour(int line, int hour) {
            if (to[line] < from[line]) {
                return hour >= from[line] || hour <= to[line];
            }
            return hour >= from[line] && hour <= to[line];
        }

        /** Whether a man of another ward may come at all, however few minutes he needs. */
        boolean letFollow(boolean cried) {
            return follow != NONE && (cried || !followNeedsCry);
        }
    }

    /** Reads THE TAPE as laws. What comes behind the first fault is of no account. */
    private static final class LawReader {
        private static final int SYNTAX = 1;
        private static final int OUT_OF_BOUNDS = 2;
        private static final int TWICE = 3;
        private static final int NO_ROOM = 4;

        private static final int AT_END = 0;
        private static final int WORD = 1;
        private static final int NUMBER = 2;
        private static final int SEMICOLON = 3;
        private static final int NO_TOKEN = 4;

        private static final int MOST_DIGITS = 4;
        private static final int AGE = 1;
        private static final int LEAVE = 2;
        private static final int FINE = 4;
        private static final int HIRED = 8;
        private static final int FOLLOW = 16;
        private static final int LOCKUP = 32;

        private final Tape tape;
        private int kind;
        private int start;
        private int stop;
        private int value;
        private int linesTold;
        private int faultKind;
        private int faultPlace = NONE;

        LawReader(Tape tape) {
            this.tape = tape;
        }

        int faultKind() {
            return faultKind;
        }

        int faultPlace() {
            return faultPlace;
        }

        /** How many lines there are, told to the laws; NONE with a fault. */
        int read(Laws into) {
            stop = 0;
            linesTold = 0;
            faultKind = 0;
            faultPlace = NONE;
            into.forget();
            advance();
            int lines = 0;
            while (kind != AT_END && faultKind == 0 && lines < tape.length()) {
                readLine(into);
                takeSemicolon();
                lines++;
            }
            return faultKind == 0 ? lines : NONE;
        }

        private void readLine(Laws into) {
            if (isWord("age")) {
                beginOnly(AGE);
                into.ageFrom = takeNumber(0, 99);
                into.ageTo = takeNumber(into.ageFrom, 99);
            } else if (isWord("leave")) {
                beginOnly(LEAVE);
                into.leave = takeNumber(0, 30);
            } else if (isWord("fine")) {
                beginOnly(FINE);
                into.fine = takeNumber(0, 9999);
            } else if (isWord("hire")) {
                beginOnly(HIRED);
                into.hire = takeNumber(0, 9999);
            } else if (isWord("power")) {
                readPower(into);
            } else if (isWord("follow")) {
                beginOnly(FOLLOW);
                into.follow = takeNumber(0, 999);
                into.followNeedsCry = takeCry();
            } else if (isWord("lockup")) {
                beginOnly(LOCKUP);
                into.lockup = takeNumber(0, 20);
            } else {
                blame(SYNTAX);
            }
        }

        private void beginOnly(int line) {
            if ((linesTold & line) != 0) {
                blame(TWICE);
            }
            linesTold |= line;
            advance();
        }

        private void readPower(Laws into) {
            if (!into.hasRoomForPower()) {
                blame(NO_ROOM);
            }
            advance();
            int power = takePower();
            takeWord("from");
            int from = takeNumber(0, HOURS - 1);
            takeWord("to");
            int to = takeNumber(0, HOURS - 1);
            into.addPower(power, from, to, takeCry());
        }

        private int takePower() {
            int power = isWord("stop") ? 0 : isWord("hold") ? 1 : isWord("enter") ? 2 : NONE;
            if (power == NONE) {
                blame(SYNTAX);
            }
            advance();
            return power;
        }

        private void takeWord(String word) {
            if (!isWord(word)) {
                blame(SYNTAX);
            }
            advance();
        }

        private boolean takeCry() {
            if (!isWord("cry")) {
                return false;
            }
            advance();
            return true;
        }

        private int takeNumber(int least, int most) {
            if (kind != NUMBER) {
                blame(SYNTAX);
            } else if (!isFrom(value, least, most)) {
                blame(OUT_OF_BOUNDS);
            }
            int taken = value;
            advance();
            return taken;
        }

        private void takeSemicolon() {
            if (kind != SEMICOLON) {
                blame(SYNTAX);
            }
            advance();
        }

        private void blame(int fault) {
            if (faultKind == 0) {
                faultKind = fault;
                faultPlace = start;
            }
        }

        private boolean isWord(String word) {
            if (kind != WORD || stop - start != word.length()) {
                return false;
            }
            for (int i = 0; i < word.length(); i++) {
                if (tape.at(start + i) != word.charAt(i)) {
                    return false;
                }
            }
            return true;
        }

        /** To the next token; a word or number has as many bytes as there are. */
        private void advance() {
            start = stop;
            while (start < tape.length() && isBlank(tape.at(start))) {
                start++;
            }
            stop = start;
            value = 0;
            int first = tape.at(start);
            if (first == Tape.PAST_END) {
                kind = AT_END;
            } else if (isLetter(first)) {
                kind = WORD;
                while (stop < tape.length() && isLetter(tape.at(stop))) {
                    stop++;
                }
            } else if (isDigit(first)) {
                while (stop < tape.length() && isDigit(tape.at(stop))) {
                    value = value * 10 + tape.at(stop) - '0';
                    stop++;
                }
                kind = stop - start <= MOST_DIGITS ? NUMBER : NO_TOKEN;
            } else {
                kind = first == ';' ? SEMICOLON : NO_TOKEN;
                stop++;
            }
        }

        private static boolean isBlank(int b) {
            return b == 32 || b == 10;
        }

        private static boolean isLetter(int b) {
            return b >= 'a' && b <= 'z';
        }

        private static boolean isDigit(int b) {
            return b >= '0' && b <= '9';
        }
    }

    /** A ward: its laws, its chest, its lock-up and its years. */
    private static final class Ward {
        private static final int YEARS = LAST_YEAR - FIRST_YEAR + 1;

        private Laws laws = new Laws();
        private int chest;
        private int lying;
        private int turn = NONE;
        private int firstYear = NONE;
        private int latestYear = NONE;
        private final int[] constables = new int[YEARS];
        private final boolean[] hired = new boolean[YEARS];
        private final int[] payers = new int[YEARS];

        boolean hasPlace() {
            return lying < laws.lockup;
        }

        /** The year that is filled when this one (or NONE) is told; NONE if it can't be. */
        int nextYear(int told) {
            if (latestYear == NONE) {
                return isFrom(told, FIRST_YEAR, LAST_YEAR) ? told : NONE;
            }
            int next = latestYear + 1;
            return next <= LAST_YEAR && (told == NONE || told == next) ? next : NONE;
        }

        void openYear(int year) {
            if (latestYear == NONE) {
                firstYear = year;
            }
            latestYear = year;
            constables[year - FIRST_YEAR] = NONE;
        }

        void takeFine(int year) {
            chest += laws.fine;
            payers[year - FIRST_YEAR]++;
        }

        void appoint(int year, int house, boolean byHire) {
            constables[year - FIRST_YEAR] = house;
            hired[year - FIRST_YEAR] = byHire;
        }

        int tellYear(int year, int what) {
            if (latestYear == NONE || !isFrom(year, firstYear, latestYear)) {
                return NONE_SUCH;
            }
            switch (what) {
                case 0: return constables[year - FIRST_YEAR];
                case 1: return hired[year - FIRST_YEAR] ? 1 : 0;
                case 2: return payers[year - FIRST_YEAR];
                default: return NONE_SUCH;
            }
        }
    }

    private static final class House {
        private final int ward;
        private final int born;
        private int purse;
        private int would = SERVE;
        private int lastYear = NONE;
        private int times;

        House(int ward, int born) {
            this.ward = ward;
            this.born = born;
        }

        boolean isDue(Laws laws, int year) {
            boolean onLeave = lastYear != NONE && year - lastYear <= laws.leave;
            return isFrom(year - born, laws.ageFrom, laws.ageTo) && !onLeave;
        }

        boolean canHire(Laws laws) {
            return would == HIRE && laws.hire != NONE && purse >= laws.hire;
        }

        boolean canPay(Laws laws) {
            return would == PAY && purse >= laws.fine;
        }

        void noteYear(int year) {
            lastYear = year;
            times++;
        }

        int tell(int what) {
            switch (what) {
                case 0: return ward;
                case 1: return born;
                case 2: return purse;
                case 3: return would;
                case 4: return lastYear;
                case 5: return times;
                default: return NONE;
            }
        }
    }

    /** ROLL. */
    private static final class Roll {
        private static final int MOST_HOUSES = 60;

        private final House[] houses = new House[MOST_HOUSES];
        private int size;

        int size() {
            return size;
        }

        int add(int ward, int born) {
            if (size >= MOST_HOUSES) {
                return FULL;
            }
            houses[size] = new House(ward, born);
            size++;
            return size - 1;
        }

        House find(int h) {
            return h >= 0 && h < size ? houses[h] : null;
        }

        /** The constable's house. Going over all houses, whatever their ward, keeps the ward's turns. */
        int fillYear(int number, Ward ward, int year) {
            ward.openYear(year);
            int first = ward.turn + 1;
            for (int step = 0; step < size; step++) {
                int h = (first + step) % size;
                House house = houses[h];
                if (house.ward == number && house.isDue(ward.laws, year)) {
                    house.noteYear(year);
                    ward.turn = h;
                    if (!house.canPay(ward.laws)) {
                        appoint(h, ward, year);
                        return h;
                    }
                    house.purse -= ward.laws.fine;
                    ward.takeFine(year);
                }
            }
            return NONE;
        }

        private void appoint(int h, Ward ward, int year) {
            boolean byHire = houses[h].canHire(ward.laws);
            if (byHire) {
                houses[h].purse -= ward.laws.hire;
            }
            ward.appoint(year, h, byHire);
        }
    }

    private static final class Charge {
        private static final int LIES = 0;
        private static final int UNLAWFUL = 1;
        private static final int LET_GO = 2;
        private static final int BROUGHT = 3;

        private final int ward;
        private final int power;
        private final int hour;
        private int state = LIES;
        private int lockup = NONE;

        Charge(int ward, int power, int hour) {
            this.ward = ward;
            this.power = power;
            this.hour = hour;
        }

        int tell(int what) {
            switch (what) {
                case 0: return ward;
                case 1: return power;
                case 2: return hour;
                case 3: return state;
                case 4: return lockup;
                default: return NONE;
            }
        }
    }

    /** NIGHTS. */
    private static final class Nights {
        private static final int MOST_CHARGES = 100;

        private final Charge[] charges = new Charge[MOST_CHARGES];
        private int size;

        int size() {
            return size;
        }

        boolean isFull() {
            return size >= MOST_CHARGES;
        }

        Charge find(int k) {
            return k >= 0 && k < size ? charges[k] : null;
        }

        /** The number of a charge that comes while there is room. */
        int take(Charge charge, Ward[] wards, boolean cried) {
            Ward own = wards[charge.ward];
            if (own.laws.gives(charge.power, charge.hour, cried)) {
                lockUp(charge, wards, cried);
            } else {
                charge.state = Charge.UNLAWFUL;
                own.chest -= UNLAWFUL_OWES;
            }
            charges[size] = charge;
            size++;
            return size - 1;
        }

        private void lockUp(Charge charge, Ward[] wards, boolean cried) {
            int lockup = firstWithPlace(charge.ward, wards);
            if (lockup == NONE || lockup != charge.ward && !wards[lockup].laws.letFollow(cried)) {
                charge.state = Charge.LET_GO;
                return;
            }
            charge.lockup = lockup;
            wards[lockup].lying++;
        }

        private static int firstWithPlace(int ward, Ward[] wards) {
            for (int step = 0; step < WARDS; step++) {
                int w = (ward + step) % WARDS;
                if (wards[w].hasPlace()) {
                    return w;
                }
            }
            return NONE;
        }

        int bringAll() {
            int brought = 0;
            for (int k = 0; k < size; k++) {
                if (charges[k].state == Charge.LIES) {
                    charges[k].state = Charge.BROUGHT;
                    brought++;
                }
            }
            return brought;
        }
    }

    /** A FLIGHT. */
    private static final class Flight {
        private static final int FEWEST = 2;
        private static final int MOST = 10;
        private static final int FIRST_BYTE = 65;

        private final int[] row = new int[MOST];
        private int courts;
        private int minutes;
        private int lastCourt = NONE;

        /** Whether THE TAPE is a row of courts, each with a way to the next. */
        boolean read(Tape tape, Town town) {
            courts = tape.length();
            if (!isFrom(courts, FEWEST, MOST)) {
                return false;
            }
            for (int i = 0; i < courts; i++) {
                row[i] = tape.at(i) - FIRST_BYTE;
                if (!isCourt(row[i])) {
                    return false;
                }
                if (i > 0 && town.minutesOfWay(row[i - 1], row[i]) == NONE) {
                    return false;
                }
            }
            return true;
        }

        /** How many courts of the row that was read the man comes to. */
        int run(Town town, Ward[] wards, boolean cried) {
            int own = town.wardAt(row[0]);
            int come = 1;
            int sinceOwn = 0;
            minutes = 0;
            while (come < courts) {
                int step = town.minutesOfWay(row[come - 1], row[come]);
                int ward = town.wardAt(row[come]);
                Laws laws = wards[ward].laws;
                sinceOwn += step;
                if (ward == own) {
                    sinceOwn = 0;
                } else if (!laws.letFollow(cried) || sinceOwn > laws.follow) {
                    break;
                }
                minutes += step;
                come++;
            }
            lastCourt = row[come - 1];
            return come;
        }

        int tell(int what) {
            if (lastCourt == NONE) {
                return NONE_SUCH;
            }
            switch (what) {
                case 0: return minutes;
                case 1: return lastCourt;
                default: return NONE_SUCH;
            }
        }
    }
}
