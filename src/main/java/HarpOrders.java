import java.util.Arrays;

/** A string club of harpists: pooled orders, shares of the post, and a wait at the customs. */
public final class HarpOrders {
    public static final int NO_SUCH = -100001, BAD_VALUE = -100002, BAD_TEXT = -100003,
        TOO_MANY = -100004, NOT_POSSIBLE = -100005, NONE = -100006;
    public static final int TIER = 0, BASE = 1, HEAVY = 2, TRAVEL = 3, WAIT = 4, FREE = 5, DUTY = 6,
        CHANCE = 7, BREAK = 8;

    private static final int[] LEAST_VALUES = {2, 0, 0, 1, 0, 0, 0, 0, 0};
    private static final int[] FIRST_VALUES = {5, 20, 1, 5, 7, 100, 20, 50, 20};
    private static final int[] MOST_VALUES = {20, 99, 9, 20, 30, 500, 50, 100, 100};

    private static final int MEMBERS = 6;
    private static final int ALL_MEMBERS = 63;
    // A harp has as many strings as there are gauges, so this counts both.
    private static final int GAUGES = 8;
    private static final int PARCELS = 5;
    private static final int MOST_SPARE = 99;
    private static final int MOST_WANTED = 20;
    // Of a call that gives strings or asks for more of them.
    private static final int MOST_AT_ONCE = 20;
    private static final int MOST_PENCE = 1000;
    private static final int MOST_DAYS = 60;
    private static final int LAST_DAY = 9999;
    private static final int STATES = 6;
    private static final int SLOTS = 2;
    // No parcel is on its way for longer than the greatest TRAVEL and the greatest WAIT together.
    private static final int LONGEST_WAY = 50;

    private final Club club = new Club();
    // untilHome plays the days on this one.
    private final Club trial = new Club();
    // The states before the latest changes, the oldest one first.
    private final Club[] history = new Club[STATES];
    private int kept;
    private final Club[] slots = new Club[SLOTS];
    private final boolean[] isSaved = new boolean[SLOTS];
    private final Pad pad = new Pad();
    // The order that is reckoned at the moment; nothing stays in it from call to call.
    private final Order draft = new Order();

    public HarpOrders() {
        for (int i = 0; i < STATES; i++) {
            history[i] = new Club();
        }
        for (int i = 0; i < SLOTS; i++) {
            slots[i] = new Club();
        }
    }

    // ---- changes

    public int set(int setting, int value) {
        if (setting < 0 || setting >= LEAST_VALUES.length) {
            return BAD_VALUE;
        }
        if (value < LEAST_VALUES[setting] || value > MOST_VALUES[setting]) {
            return BAD_VALUE;
        }
        remember();
        int previous = club.settings[setting];
        club.settings[setting] = value;
        return previous;
    }

    public int snap(int member, int string) {
        if (!isMember(member) || !isGauge(string)) {
            return NO_SUCH;
        }
        if (isIn(club.broken[member], string)) {
            return NOT_POSSIBLE;
        }
        remember();
        club.broken[member] |= 1 << string;
        return Integer.bitCount(club.broken[member]);
    }

    public int fit(int member, int string, int gauge) {
        if (!isMember(member) || !isGauge(string) || !isGauge(gauge)) {
            return NO_SUCH;
        }
        if (!isIn(club.broken[member], string) || Math.abs(gauge - string) > 1) {
            return NOT_POSSIBLE;
        }
        if (club.spare[member][gauge] == 0) {
            return NOT_POSSIBLE;
        }
        remember();
        club.broken[member] &= ~(1 << string);
        club.spare[member][gauge]--;
        return club.spare[member][gauge];
    }

    public int want(int member, int gauge, int many) {
        if (!isMember(member) || !isGauge(gauge)) {
            return NO_SUCH;
        }
        if (many < 0 || many > MOST_WANTED) {
            return BAD_VALUE;
        }
        remember();
        club.wanted[member][gauge] = many;
        return costOf(ALL_MEMBERS);
    }

    public int read() {
        if (pad.faultIndex() != NONE) {
            return BAD_TEXT;
        }
        remember();
        pad.addWants(club);
        pad.length = 0;
        return costOf(ALL_MEMBERS);
    }

    public int pay(int member, int pence) {
        if (!isMember(member)) {
            return NO_SUCH;
        }
        if (pence < 1 || pence > MOST_PENCE) {
            return BAD_VALUE;
        }
        remember();
        club.accounts[member] += pence;
        return club.accounts[member];
    }

    public int give(int member, int other, int gauge, int many) {
        if (!isMember(member) || !isMember(other) || !isGauge(gauge)) {
            return NO_SUCH;
        }
        if (member == other || many < 1 || many > MOST_AT_ONCE) {
            return BAD_VALUE;
        }
        if (club.spare[member][gauge] < many || club.spare[other][gauge] + many > MOST_SPARE) {
            return NOT_POSSIBLE;
        }
        remember();
        club.spare[member][gauge] -= many;
        club.spare[other][gauge] += many;
        club.accounts[member] += many * priceOf(gauge);
        club.accounts[other] -= many * priceOf(gauge);
        return club.accounts[member];
    }

    public int send(int members) {
        if (members == 0 || !isSet(members)) {
            return BAD_VALUE;
        }
        draft.gather(club, members);
        if (draft.pieces == 0 || draft.cost() > sumOf(club.accounts)) {
            return NOT_POSSIBLE;
        }
        if (club.underway >= PARCELS) {
            return TOO_MANY;
        }
        remember();
        club.dispatch(draft, members);
        return draft.cost();
    }

    public int pass(int days) {
        if (days < 1 || days > MOST_DAYS) {
            return BAD_VALUE;
        }
        if (club.day + days > LAST_DAY) {
            return TOO_MANY;
        }
        remember();
        int home = 0;
        for (int i = 0; i < days; i++) {
            home += club.beginDay();
        }
        return home;
    }

    public int shuffle(int number) {
        if (number < 0) {
            return BAD_VALUE;
        }
        remember();
        int previous = club.x;
        club.x = number;
        return previous;
    }

    // ---- what there is; nothing changes

    public int member(int member, int what) {
        if (!isMember(member)) {
            return NO_SUCH;
        }
        switch (what) {
            case 0: return club.accounts[member];
            case 1: return club.broken[member];
            case 2: return sumOf(club.spare[member]);
            case 3: return sumOf(club.wanted[member]);
            case 4: return club.underwayOf(member);
            case 5: return club.paidForStrings[member];
            case 6: return club.paidForPost[member];
            case 7: return club.paidForDuty[member];
            case 8: return club.lost[member];
            default: return BAD_VALUE;
        }
    }

    public int strings(int member, int gauge, boolean isWanted) {
        if (!isMember(member) || !isGauge(gauge)) {
            return NO_SUCH;
        }
        return isWanted ? club.wanted[member][gauge] : club.spare[member][gauge];
    }

    public int parcel(int parcel, int what) {
        if (parcel < 0 || parcel >= club.underway || parcel >= PARCELS) {
            return NO_SUCH;
        }
        Parcel asked = club.parcels[parcel];
        switch (what) {
            case 0: return asked.pieces();
            case 1: return asked.value;
            case 2: return asked.owners();
            case 3: return asked.dueDay - club.day;
            case 4: return asked.isOpened ? 1 : 0;
            default: return BAD_VALUE;
        }
    }

    public int count(int what) {
        if (what >= 0 && what < club.settings.length) {
            return club.settings[what];
        }
        switch (what) {
            case 9: return club.day;
            case 10: return sumOf(club.accounts);
            case 11: return club.underway;
            case 12: return club.opened;
            case 13: return sumOf(club.paidForDuty);
            case 14: return sumOf(club.lost);
            case 15: return club.brokenStrings();
            case 16: return club.x;
            case 17: return pad.length;
            case 18: return kept;
            default: return BAD_VALUE;
        }
    }

    // ---- what if; nothing changes

    public int order(int members, int what) {
        if (!isSet(members)) {
            return BAD_VALUE;
        }
        draft.gather(club, members);
        switch (what) {
            case 0: return draft.cost();
            case 1: return draft.value;
            case 2: return draft.post;
            case 3: return draft.pieces;
            case 4: return dutyOn(draft.value, club.settings);
            default: return BAD_VALUE;
        }
    }

    public int share(int members, int member) {
        if (!isMember(member)) {
            return NO_SUCH;
        }
        if (!isSet(members)) {
            return BAD_VALUE;
        }
        if (!isIn(members, member)) {
            return 0;
        }
        draft.gather(club, members);
        draft.sharePost(club, members);
        return draft.ownCost(club.wanted[member]) + draft.sharing.shares[member];
    }

    public int ifMore(int member, int gauge, int many) {
        if (!isMember(member) || !isGauge(gauge)) {
            return NO_SUCH;
        }
        if (many < 1 || many > MOST_AT_ONCE) {
            return BAD_VALUE;
        }
        int before = costOf(ALL_MEMBERS);
        draft.ofGauge[gauge] += many;
        draft.reckon(club.settings);
        return draft.cost() - before;
    }

    public int bestParting(int what) {
        if (what != 0 && what != 1) {
            return BAD_VALUE;
        }
        int bestSet = 0;
        int leastPence = pencePartedAt(0);
        // A set and that of the others part alike, so the least best set is without the last member.
        for (int members = 1; members <= ALL_MEMBERS / 2; members++) {
            int pence = pencePartedAt(members);
            if (pence < leastPence) {
                leastPence = pence;
                bestSet = members;
            }
        }
        return what == 0 ? bestSet : leastPence;
    }

    public int standIn(int member, int string) {
        if (!isMember(member) || !isGauge(string)) {
            return NO_SUCH;
        }
        if (!isIn(club.broken[member], string)) {
            return NONE;
        }
        int[] spare = club.spare[member];
        if (spare[string] > 0) {
            return string;
        }
        if (string > 0 && spare[string - 1] > 0) {
            return string - 1;
        }
        if (string < GAUGES - 1 && spare[string + 1] > 0) {
            return string + 1;
        }
        return NONE;
    }

    public int untilHome() {
        trial.copyFrom(club);
        int days = 0;
        while (trial.underway > 0 && days < LONGEST_WAY) {
            trial.beginDay();
            days++;
        }
        return days;
    }

    // ---- texts

    public int put(long characters) {
        int many = Pad.charactersIn(characters);
        if (many == 0) {
            return BAD_VALUE;
        }
        if (pad.length + many > Pad.MOST_SIGNS) {
            return TOO_MANY;
        }
        pad.append(characters, many);
        return pad.length;
    }

    public int wipe() {
        int previous = pad.length;
        pad.length = 0;
        return previous;
    }

    public int fault() {
        return pad.faultIndex();
    }

    // ---- undo, saving

    public int undo() {
        if (kept <= 0 || kept > STATES) {
            return NOT_POSSIBLE;
        }
        kept--;
        club.copyFrom(history[kept]);
        return kept;
    }

    public int save(int slot) {
        if (slot < 0 || slot >= SLOTS) {
            return BAD_VALUE;
        }
        slots[slot].copyFrom(club);
        isSaved[slot] = true;
        return club.day;
    }

    public int restore(int slot) {
        if (slot < 0 || slot >= SLOTS) {
            return BAD_VALUE;
        }
        if (!isSaved[slot]) {
            return NOT_POSSIBLE;
        }
        remember();
        club.copyFrom(slots[slot]);
        return club.day;
    }

    /** Records the state before a change; the oldest state's rows are used again when all are full. */
    private void remember() {
        if (kept >= STATES) {
            Club oldest = history[0];
            for (int i = 1; i < STATES; i++) {
                history[i - 1] = history[i];
            }
            history[STATES - 1] = oldest;
            kept = STATES - 1;
        }
        history[kept].copyFrom(club);
        kept++;
    }

    private int costOf(int members) {
        draft.gather(club, members);
        return draft.cost();
    }

    private int pencePartedAt(int members) {
        return costWithDuty(members) + costWithDuty(ALL_MEMBERS - members);
    }

    private int costWithDuty(int members) {
        return costOf(members) + dutyOn(draft.value, club.settings);
    }

    private static boolean isMember(int member) {
        return member >= 0 && member < MEMBERS;
    }

    private static boolean isGauge(int gauge) {
        return gauge >= 0 && gauge < GAUGES;
    }

    private static boolean isSet(int members) {
        return members >= 0 && members <= ALL_MEMBERS;
    }

    private static boolean isIn(int set, int number) {
        return ((set >> number) & 1) == 1;
    }

    private static int priceOf(int gauge) {
        return 10 + 5 * gauge;
    }

    private static int weightOf(int gauge) {
        return 1 + gauge;
    }

    private static int dutyOn(int value, int[] settings) {
        return Math.max(value - settings[FREE], 0) * settings[DUTY] / 100;
    }

    private static int sumOf(int[] numbers) {
        int sum = 0;
        for (int number : numbers) {
            sum += number;
        }
        return sum;
    }

    private static void copyRow(int[] from, int[] to) {
        System.arraycopy(from, 0, to, 0, Math.min(from.length, to.length));
    }

    private static void copyTable(int[][] from, int[][] to) {
        for (int i = 0; i < from.length && i < to.length; i++) {
            copyRow(from[i], to[i]);
        }
    }

    /** Everything that undo brings back and a slot saves. */
    private static final class Club {
        final int[] settings = FIRST_VALUES.clone();
        int day;
        int x = 1;
        final int[] broken = new int[MEMBERS];
        final int[][] spare = new int[MEMBERS][GAUGES];
        final int[][] wanted = new int[MEMBERS][GAUGES];
        final int[] accounts = new int[MEMBERS];
        final int[] paidForStrings = new int[MEMBERS];
        final int[] paidForPost = new int[MEMBERS];
        final int[] paidForDuty = new int[MEMBERS];
        final int[] lost = new int[MEMBERS];
        // The first ones, as many as underway tells, are on their way; the others are rows to use again.
        final Parcel[] parcels = new Parcel[PARCELS];
        int underway;
        int opened;
        final Sharing sharing = new Sharing();

        Club() {
            for (int i = 0; i < PARCELS; i++) {
                parcels[i] = new Parcel();
            }
        }

        void copyFrom(Club other) {
            copyRow(other.settings, settings);
            day = other.day;
            x = other.x;
            copyRow(other.broken, broken);
            copyTable(other.spare, spare);
            copyTable(other.wanted, wanted);
            copyRow(other.accounts, accounts);
            copyRow(other.paidForStrings, paidForStrings);
            copyRow(other.paidForPost, paidForPost);
            copyRow(other.paidForDuty, paidForDuty);
            copyRow(other.lost, lost);
            underway = other.underway;
            opened = other.opened;
            for (int i = 0; i < underway && i < PARCELS; i++) {
                parcels[i].copyFrom(other.parcels[i]);
            }
        }

        int brokenStrings() {
            int sum = 0;
            for (int strings : broken) {
                sum += Integer.bitCount(strings);
            }
            return sum;
        }

        int underwayOf(int member) {
            int sum = 0;
            for (int i = 0; i < underway && i < PARCELS; i++) {
                sum += sumOf(parcels[i].contents[member]);
            }
            return sum;
        }

        void addWant(int member, int gauge, int many) {
            if (isMember(member) && isGauge(gauge)) {
                wanted[member][gauge] = Math.min(wanted[member][gauge] + many, MOST_WANTED);
            }
        }

        /** Sends an order of these members, gathered from this club, on its way. */
        void dispatch(Order order, int members) {
            if (underway < 0 || underway >= PARCELS) {
                return;
            }
            order.sharePost(this, members);
            Parcel sent = parcels[underway];
            underway++;
            sent.value = order.value;
            sent.dueDay = day + settings[TRAVEL];
            sent.isOpened = false;
            for (int m = 0; m < MEMBERS; m++) {
                Arrays.fill(sent.contents[m], 0);
                if (isIn(members, m)) {
                    charge(m, order);
                    copyRow(wanted[m], sent.contents[m]);
                    Arrays.fill(wanted[m], 0);
                }
            }
        }

        private void charge(int member, Order order) {
            int ownCost = order.ownCost(wanted[member]);
            int ownPost = order.sharing.shares[member];
            accounts[member] -= ownCost + ownPost;
            paidForStrings[member] += ownCost;
            paidForPost[member] += ownPost;
        }

        /** Begins the next day, and tells how many parcels are home then. */
        int beginDay() {
            day++;
            int before = underway;
            int staying = 0;
            for (int i = 0; i < before && i < PARCELS; i++) {
                Parcel next = parcels[i];
                if (next.dueDay == day && comesHome(next)) {
                    unpack(next);
                } else {
                    // Swapped, not overwritten: the rows of those that are home are used again.
                    parcels[i] = parcels[staying];
                    parcels[staying] = next;
                    staying++;
                }
            }
            underway = staying;
            return before - staying;
        }

        /** Whether a parcel whose day has come is home on it; the customs see it before, but once. */
        private boolean comesHome(Parcel due) {
            if (due.isOpened || draw(100) >= settings[CHANCE]) {
                return true;
            }
            openAtCustoms(due);
            return settings[WAIT] == 0;
        }

        private void openAtCustoms(Parcel due) {
            opened++;
            due.isOpened = true;
            due.dueDay = day + settings[WAIT];
            payDuty(due);
            if (draw(100) < settings[BREAK]) {
                int owner = due.loseString(draw(due.pieces()));
                if (isMember(owner)) {
                    lost[owner]++;
                }
            }
        }

        private void payDuty(Parcel due) {
            for (int m = 0; m < MEMBERS; m++) {
                sharing.parts[m] = fullPriceOf(due.contents[m]);
            }
            sharing.divide(dutyOn(due.value, settings));
            for (int m = 0; m < MEMBERS; m++) {
                accounts[m] -= sharing.shares[m];
                paidForDuty[m] += sharing.shares[m];
            }
        }

        private static int fullPriceOf(int[] strings) {
            int price = 0;
            for (int g = 0; g < strings.length; g++) {
                price += strings[g] * priceOf(g);
            }
            return price;
        }

        private void unpack(Parcel home) {
            for (int m = 0; m < MEMBERS; m++) {
                for (int g = 0; g < GAUGES; g++) {
                    int all = spare[m][g] + home.contents[m][g];
                    spare[m][g] = Math.min(all, MOST_SPARE);
                    lost[m] += all - spare[m][g];
                }
            }
        }

        private int draw(int below) {
            x = (int) ((x * 1103515245L + 12345L) % 2147483648L);
            return below <= 0 ? 0 : x / 65536 % below;
        }
    }

    /** Strings on their way to members. */
    private static final class Parcel {
        final int[][] contents = new int[MEMBERS][GAUGES];
        int value;
        // The day on which it comes to the customs, or home if it was opened.
        int dueDay;
        boolean isOpened;

        void copyFrom(Parcel other) {
            copyTable(other.contents, contents);
            value = other.value;
            dueDay = other.dueDay;
            isOpened = other.isOpened;
        }

        int pieces() {
            int sum = 0;
            for (int m = 0; m < MEMBERS; m++) {
                sum += sumOf(contents[m]);
            }
            return sum;
        }

        int owners() {
            int set = 0;
            for (int m = 0; m < MEMBERS; m++) {
                if (sumOf(contents[m]) > 0) {
                    set |= 1 << m;
                }
            }
            return set;
        }

        /** Takes one string out, the place-th of all, and returns whose it was (-1 if there is none). */
        int loseString(int place) {
            int before = place;
            for (int m = 0; m < MEMBERS; m++) {
                for (int g = 0; g < GAUGES; g++) {
                    if (before < contents[m][g]) {
                        contents[m][g]--;
                        return m;
                    }
                    before -= contents[m][g];
                }
            }
            return -1;
        }
    }

    /** What some members want, and what it costs. */
    private static final class Order {
        final int[] ofGauge = new int[GAUGES];
        // What a string of each gauge costs in this order.
        final int[] prices = new int[GAUGES];
        int pieces;
        int value;
        int post;
        final Sharing sharing = new Sharing();

        void gather(Club club, int members) {
            Arrays.fill(ofGauge, 0);
            for (int m = 0; m < MEMBERS; m++) {
                if (isIn(members, m)) {
                    addRow(club.wanted[m]);
                }
            }
            reckon(club.settings);
        }

        private void addRow(int[] strings) {
            for (int g = 0; g < GAUGES; g++) {
                ofGauge[g] += strings[g];
            }
        }

        void reckon(int[] settings) {
            pieces = 0;
            value = 0;
            int weight = 0;
            for (int g = 0; g < GAUGES; g++) {
                int price = priceOf(g);
                prices[g] = ofGauge[g] >= settings[TIER] ? price - price / 5 : price;
                pieces += ofGauge[g];
                value += ofGauge[g] * prices[g];
                weight += ofGauge[g] * weightOf(g);
            }
            post = pieces == 0 ? 0 : settings[BASE] + settings[HEAVY] * weight;
        }

        int cost() {
            return value + post;
        }

        /** What some strings of this order cost, without post. */
        int ownCost(int[] strings) {
            int cost = 0;
            for (int g = 0; g < GAUGES; g++) {
                cost += strings[g] * prices[g];
            }
            return cost;
        }

        void sharePost(Club club, int members) {
            for (int m = 0; m < MEMBERS; m++) {
                sharing.parts[m] = isIn(members, m) ? weightOfAll(club.wanted[m]) : 0;
            }
            sharing.divide(post);
        }

        private static int weightOfAll(int[] strings) {
            int weight = 0;
            for (int g = 0; g < GAUGES; g++) {
                weight += strings[g] * weightOf(g);
            }
            return weight;
        }
    }

    /** Divides an amount among the members by their parts. */
    private static final class Sharing {
        final int[] parts = new int[MEMBERS];
        final int[] shares = new int[MEMBERS];

        void divide(int amount) {
            Arrays.fill(shares, 0);
            int whole = sumOf(parts);
            if (whole <= 0) {
                return;
            }
            int left = amount;
            for (int m = 0; m < MEMBERS; m++) {
                shares[m] = amount * parts[m] / whole;
                left -= shares[m];
            }
            for (int m = 0; m < MEMBERS && left > 0; m++) {
                if (parts[m] > 0) {
                    shares[m]++;
                    left--;
                }
            }
        }
    }

    /** The text of wants that is not read yet. */
    private static final class Pad {
        static final int MOST_SIGNS = 60;
        private static final int LONG_SIGNS = 8;

        // What may stand at the next place of a text; from AFTER_ONE on the text may also end there.
        private static final int WRONG = -1;
        private static final int AT_MEMBER = 0;
        private static final int AT_GAUGE = 1;
        private static final int AT_COLON = 2;
        private static final int AT_MANY = 3;
        private static final int AFTER_ONE = 4;
        private static final int AFTER_TWO = 5;
        private static final int AFTER_MANY = 6;

        final char[] signs = new char[MOST_SIGNS];
        int length;

        /** How many characters a number holds, 0 if it holds none or is not as it has to be. */
        static int charactersIn(long characters) {
            int many = 0;
            while (many < LONG_SIGNS && characterAt(characters, many) != 0) {
                int code = characterAt(characters, many);
                if (code < 33 || code > 126) {
                    return 0;
                }
                many++;
            }
            boolean isMoreAbove = many < LONG_SIGNS && (characters >>> (8 * many)) != 0;
            return isMoreAbove ? 0 : many;
        }

        private static int characterAt(long characters, int fromLast) {
            return (int) ((characters >>> (8 * fromLast)) & 255);
        }

        void append(long characters, int many) {
            for (int i = many - 1; i >= 0 && length < MOST_SIGNS; i--) {
                signs[length] = (char) characterAt(characters, i);
                length++;
            }
        }

        int faultIndex() {
            int place = AT_MEMBER;
            for (int i = 0; i < length && i < MOST_SIGNS; i++) {
                place = placeAfter(place, signs[i]);
                if (place == WRONG) {
                    return i;
                }
            }
            return place >= AFTER_ONE ? NONE : length;
        }

        private static int placeAfter(int place, char sign) {
            switch (place) {
                case AT_MEMBER: return sign >= 'a' && sign <= 'f' ? AT_GAUGE : WRONG;
                case AT_GAUGE: return sign >= '0' && sign <= '7' ? AT_COLON : WRONG;
                case AT_COLON: return sign == ':' ? AT_MANY : WRONG;
                case AT_MANY: return placeAfterFirstDigit(sign);
                case AFTER_ONE: return sign >= '0' && sign <= '9' ? AFTER_MANY : placeAfterWant(sign);
                case AFTER_TWO: return sign == '0' ? AFTER_MANY : placeAfterWant(sign);
                default: return placeAfterWant(sign);
            }
        }

        private static int placeAfterFirstDigit(char digit) {
            switch (digit) {
                case '1': return AFTER_ONE;
                case '2': return AFTER_TWO;
                default: return digit >= '3' && digit <= '9' ? AFTER_MANY : WRONG;
            }
        }

        private static int placeAfterWant(char sign) {
            switch (sign) {
                case ',': return AT_GAUGE;
                case ';': return AT_MEMBER;
                default: return WRONG;
            }
        }

        /** Adds the wants of a text without a fault. */
        void addWants(Club club) {
            int place = AT_MEMBER;
            int member = 0;
            int gauge = 0;
            int many = 0;
            for (int i = 0; i < length && i < MOST_SIGNS; i++) {
                char sign = signs[i];
                if (place == AT_MEMBER) {
                    member = sign - 'a';
                } else if (place == AT_GAUGE) {
                    gauge = sign - '0';
                    many = 0;
                } else if (sign >= '0' && sign <= '9') {
                    many = many * 10 + sign - '0';
                } else if (sign != ':') {
                    club.addWant(member, gauge, many);
                }
                place = placeAfter(place, sign);
            }
            club.addWant(member, gauge, many);
        }
    }
}
