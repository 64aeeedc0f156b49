/** A calendar from which a day was skipped, and what hangs on where that day is put in. */
public final class SkippedDay {
    public static final int UNKNOWN = -1, BAD = -2, LATE = -3, FULL = -4, NONE = -9;

    private static final int DAYS = 12;
    private static final int GAPS = 13;
    /** Lies behind every GAP, so that no DAY comes later by it. */
    private static final int NOWHERE = 13;
    private static final int PLACES = 14;
    private static final int SKIPPED = 12;
    private static final int BEHIND_ALL = 13;

    private static final int CONTRACTS = 0, BIRTHS = 1, TIDES = 2, DEBTS = 3, KINDS = 4;
    private static final int LAST_DAY_AS_COUNT = 9;

    private static final int BY_NAME = 1, BY_COUNT = 2;

    private static final int PARTIES = 4;
    private static final int NET_SHIFT = 100;

    private static final int MOST_RULE_YEARS = 10;
    private static final int MOST_SLIP_YEARS = 6;
    private static final int TENTHS = 10;
    private static final int MOST_DRAWN_YEARS = 40;

    private static final int SLOTS = 2;

    private final Text text;
    private Told told;
    private Told draft;
    private final Standing now;
    private final Acts acts;
    private final Sightings sightings;
    private final Sides sides;
    private final Standing[] kept;
    private int keptSlots;
    private long theSeed;

    public SkippedDay() {
        text = new Text();
        told = new Told();
        draft = new Told();
        now = new Standing();
        acts = new Acts();
        sightings = new Sightings();
        sides = new Sides();
        kept = new Standing[SLOTS];
        for (int slot = 0; slot < SLOTS; slot++) {
            kept[slot] = new Standing();
        }
        keptSlots = 0;
        theSeed = 0;
    }

    // ---- the case

    public int write(int letter) {
        if (letter < 0 || letter > 255) {
            return BAD;
        }
        if (text.isFull()) {
            return FULL;
        }
        text.append(letter);
        return text.length();
    }

    public int wipe() {
        int length = text.length();
        text.clear();
        return length;
    }

    public int fault() {
        return draft.readFrom(text);
    }

    public int open() {
        if (draft.readFrom(text) != NONE) {
            return LATE;
        }
        Told read = draft;
        draft = told;
        told = read;
        now.begin(told.countedContracts());
        acts.clear();
        keptSlots = 0;
        return 10 * told.sizeOf(CONTRACTS) + told.sizeOf(BIRTHS);
    }

    public int about(int what) {
        switch (what) {
            case 0:
            case 1:
            case 2:
            case 3:
                // these four are the numbers of the kinds themselves
                return told.sizeOf(what);
            case 4:
                return gapOrNone(now.place);
            case 5:
                return now.voided;
            case 6:
                return brokenAt(now.place);
            case 7:
                return acts.size();
            case 8:
                return sightings.size();
            case 9:
                return text.length();
            default:
                return BAD;
        }
    }

    public int contract(int contract, int what) {
        if (!isContract(contract)) {
            return UNKNOWN;
        }
        switch (what) {
            case 0:
                return told.startOf(contract);
            case 1:
                return now.isByCount(contract) ? 1 : 0;
            case 2:
                return told.lengthOf(contract);
            case 3:
                return told.latestOf(contract);
            case 4:
                return told.leastOf(contract);
            case 5:
                return now.isVoid(contract) ? 1 : 0;
            case 6:
                return endOf(contract, now.isByCount(contract), now.place);
            default:
                return BAD;
        }
    }

    // ---- acts

    public int put(int gap) {
        if (!isPlace(gap)) {
            return BAD;
        }
        if (gap == now.place) {
            return LATE;
        }
        int before = now.place;
        acts.add(Acts.PUT, before);
        now.place = gap;
        return gapOrNone(before);
    }

    public int turnVoid(int contract) {
        if (!isContract(contract)) {
            return UNKNOWN;
        }
        acts.add(Acts.VOIDED, contract);
        now.turnVoided(contract);
        return now.isVoid(contract) ? 1 : 0;
    }

    public int readOtherwise(int contract) {
        if (!isContract(contract)) {
            return UNKNOWN;
        }
        if (!now.isByCount(contract) && told.lengthOf(contract) > LAST_DAY_AS_COUNT) {
            return LATE;
        }
        acts.add(Acts.READ, contract);
        now.turnReading(contract);
        return now.isByCount(contract) ? 1 : 0;
    }

    public int undo() {
        if (acts.size() == 0) {
            return LATE;
        }
        int number = acts.lastNumber();
        switch (acts.lastKind()) {
            case Acts.PUT:
                now.place = number;
                break;
            case Acts.VOIDED:
                now.turnVoided(number);
                break;
            default:
                now.turnReading(number);
                break;
        }
        acts.removeLast();
        return acts.size();
    }

    // ---- where

    public int broken(int gap) {
        return isPlace(gap) ? brokenAt(gap) : BAD;
    }

    public int best(int those, int what) {
        if (!areBits(those, told.sizeOf(CONTRACTS)) || !isZeroOrOne(what)) {
            return BAD;
        }
        int where = NONE;
        int fewest = NONE;
        for (int place = 0; place < PLACES; place++) {
            int bits = brokenAt(place);
            int count = Integer.bitCount(bits);
            if ((bits & those) == 0 && (where == NONE || count < fewest)) {
                where = place;
                fewest = count;
            }
        }
        return what == 0 ? where : fewest;
    }

    public int quarrel() {
        int contracts = told.sizeOf(CONTRACTS);
        for (int lesser = 0; lesser < contracts; lesser++) {
            int places = holdingPlaces(lesser);
            for (int greater = lesser + 1; greater < contracts; greater++) {
                int others = holdingPlaces(greater);
                if (places != 0 && others != 0 && (places & others) == 0) {
                    return 10 * lesser + greater;
                }
            }
        }
        return NONE;
    }

    public int drop() {
        // without a set all others hold in a GAP just if the set has all that are BROKEN there
        int fewest = brokenAt(0);
        for (int gap = 1; gap < GAPS; gap++) {
            int bits = brokenAt(gap);
            if (isSmallerSet(bits, fewest)) {
                fewest = bits;
            }
        }
        return fewest;
    }

    // ---- read, of age

    public int see(int contract, int d) {
        if (!isContract(contract)) {
            return UNKNOWN;
        }
        if (!isDay(d)) {
            return BAD;
        }
        if (sightings.isFull()) {
            return FULL;
        }
        sightings.add(contract, d);
        return sightings.size();
    }

    public int unsee() {
        int size = sightings.size();
        sightings.clear();
        return size;
    }

    public int meant(int contract) {
        if (!isContract(contract)) {
            return UNKNOWN;
        }
        int readings = 0;
        if (endsAsSeen(contract, false)) {
            readings += BY_NAME;
        }
        if (endsAsSeen(contract, true)) {
            readings += BY_COUNT;
        }
        return readings;
    }

    public int ofAge(int birth, int gap) {
        if (birth < 0 || birth >= told.sizeOf(BIRTHS)) {
            return UNKNOWN;
        }
        if (!isPlace(gap)) {
            return BAD;
        }
        return nameOf(comingOf(told.birthDay(birth), gap) + told.fullAge(birth), gap);
    }

    public int agree(int d, int gap) {
        if (!isDay(d) || !isPlace(gap)) {
            return BAD;
        }
        int coming = comingOf(d, gap);
        int agreeing = 0;
        for (int tide = 0; tide < told.sizeOf(TIDES); tide++) {
            if (comesOn(tide, coming)) {
                agreeing++;
            }
        }
        return agreeing;
    }

    // ---- debts, sides

    public int net(int party) {
        if (party < 0 || party >= PARTIES) {
            return UNKNOWN;
        }
        return netOf(party) + NET_SHIFT;
    }

    public int payings() {
        int parties = 0;
        for (int party = 0; party < PARTIES; party++) {
            if (netOf(party) != 0) {
                parties++;
            }
        }
        return parties - mostSets(parties);
    }

    public int strike(int set, int a, int b, int what) {
        if (!areBits(set, GAPS) || !isGap(a) || !isGap(b) || !isZeroOrOne(what)) {
            return BAD;
        }
        int size = Integer.bitCount(set);
        if (size < Sides.LEAST_GAPS || size > Sides.MOST_GAPS) {
            return BAD;
        }
        sides.play(set, a, b);
        return what == 0 ? sides.lastLeft() : sides.firstStruck();
    }

    // ---- rules, chances

    public int rule(int n, int years, int what) {
        if (n < 1 || n > MOST_RULE_YEARS || !areBits(years, n) || !isZeroOrOne(what)) {
            return BAD;
        }
        if (years == 0) {
            return 0;
        }
        for (int p = 1; p <= MOST_RULE_YEARS; p++) {
            for (int r = 0; r < p; r++) {
                if (yearsBy(n, p, r) == years) {
                    return what == 0 ? p : r;
                }
            }
        }
        return NONE;
    }

    public int slips(int n, int k, int x, boolean upper) {
        if (n < 1 || n > MOST_SLIP_YEARS || k < 0 || k > n || x < 0 || x > TENTHS) {
            return BAD;
        }
        int above = choices(n, k) * power(x, k) * power(TENTHS - x, n - k);
        int below = power(TENTHS, n);
        // below is made of n twos and n fives, so nothing else can be common to both
        for (int i = 0; i < n; i++) {
            if (above % 2 == 0) {
                above /= 2;
                below /= 2;
            }
            if (above % 5 == 0) {
                above /= 5;
                below /= 5;
            }
        }
        return upper ? above : below;
    }

    public long seed(long v) {
        long before = theSeed;
        theSeed = v;
        return before;
    }

    public int years(int m) {
        if (m < 1 || m > MOST_DRAWN_YEARS) {
            return BAD;
        }
        int count = 0;
        for (int year = 0; year < m; year++) {
            theSeed = theSeed * 6364136223846793005L + 1442695040888963407L;
            int place = (int) ((theSeed >>> 33) % PLACES);
            count += Integer.bitCount(brokenAt(place));
        }
        return count;
    }

    // ---- slots

    public int keep(int slot) {
        if (slot < 0 || slot >= SLOTS) {
            return UNKNOWN;
        }
        kept[slot].copyFrom(now);
        keptSlots |= 1 << slot;
        return brokenNow();
    }

    public int again(int slot) {
        if (slot < 0 || slot >= SLOTS) {
            return UNKNOWN;
        }
        if ((keptSlots >> slot & 1) == 0) {
            return LATE;
        }
        now.copyFrom(kept[slot]);
        acts.clear();
        return brokenNow();
    }

    // ---- what arguments may be

    private boolean isContract(int contract) {
        return contract >= 0 && contract < told.sizeOf(CONTRACTS);
    }

    private static boolean isDay(int day) {
        return day >= 0 && day < DAYS;
    }

    private static boolean isGap(int gap) {
        return gap >= 0 && gap < GAPS;
    }

    /** A place is a GAP, or nowhere. */
    private static boolean isPlace(int place) {
        return place >= 0 && place < PLACES;
    }

    private static boolean isZeroOrOne(int what) {
        return what == 0 || what == 1;
    }

    private static boolean areBits(int bits, int width) {
        return bits >= 0 && bits >> width == 0;
    }

    // ---- days

    private static int gapOrNone(int place) {
        return place == NOWHERE ? NONE : place;
    }

    /** On which day from the beginning a DAY comes. */
    private static int comingOf(int day, int place) {
        return day < place ? day : day + 1;
    }

    /** Which DAY comes on a day from the beginning; SKIPPED or BEHIND_ALL if none does. */
    private static int nameOf(int coming, int place) {
        if (coming == place && place != NOWHERE) {
            return SKIPPED;
        }
        int day = coming < place ? coming : coming - 1;
        return day < DAYS ? day : BEHIND_ALL;
    }

    private boolean comesOn(int tide, int coming) {
        int since = coming - told.tideFirst(tide);
        int each = told.tideEach(tide);
        return since >= 0 && each > 0 && since % each == 0;
    }

    // ---- contracts

    private int endOf(int contract, boolean byCount, int place) {
        int length = told.lengthOf(contract);
        return byCount ? comingOf(told.startOf(contract), place) + length : comingOf(length, place);
    }

    private boolean holdsAt(int contract, int place) {
        int end = endOf(contract, now.isByCount(contract), place);
        int lasting = end - comingOf(told.startOf(contract), place);
        return end <= comingOf(told.latestOf(contract), place) && lasting >= told.leastOf(contract);
    }

    /** The CONTRACTS, as bits, that are not VOID and would be BROKEN with the day there. */
    private int brokenAt(int place) {
        int bits = 0;
        for (int contract = 0; contract < told.sizeOf(CONTRACTS); contract++) {
            if (!now.isVoid(contract) && !holdsAt(contract, place)) {
                bits |= 1 << contract;
            }
        }
        return bits;
    }

    private int brokenNow() {
        return Integer.bitCount(brokenAt(now.place));
    }

    /** The places, as bits, at which a CONTRACT holds; a VOID one does not count at any. */
    private int holdingPlaces(int contract) {
        int places = 0;
        for (int place = 0; place < PLACES; place++) {
            if (!now.isVoid(contract) && holdsAt(contract, place)) {
                places |= 1 << place;
            }
        }
        return places;
    }

    private static boolean isSmallerSet(int bits, int others) {
        int count = Integer.bitCount(bits);
        int otherCount = Integer.bitCount(others);
        return count < otherCount || count == otherCount && bits < others;
    }

    private boolean endsAsSeen(int contract, boolean byCount) {
        int end = endOf(contract, byCount, now.place);
        for (int i = 0; i < sightings.size(); i++) {
            if (sightings.contractAt(i) == contract && comingOf(sightings.dayAt(i), now.place) != end) {
                return false;
            }
        }
        return true;
    }

    // ---- debts

    private int netOf(int party) {
        int net = 0;
        for (int debt = 0; debt < told.sizeOf(DEBTS); debt++) {
            if (told.debtor(debt) == party) {
                net -= told.debtOf(debt);
            }
            if (told.creditor(debt) == party) {
                net += told.debtOf(debt);
            }
        }
        return net;
    }

    /** A set takes two PARTIES at least, so only all four can be cut into more than one. */
    private int mostSets(int parties) {
        if (parties == 0) {
            return 0;
        }
        return parties == PARTIES && hasEvenPair() ? 2 : 1;
    }

    /** Whether PARTY 0 comes to nothing with one other; the other two do so then as well. */
    private boolean hasEvenPair() {
        for (int party = 1; party < PARTIES; party++) {
            if (netOf(0) + netOf(party) == 0) {
                return true;
            }
        }
        return false;
    }

    // ---- rules, chances

    /** The years, as bits, of which r is left by p. */
    private static int yearsBy(int n, int p, int r) {
        int years = 0;
        for (int year = 0; year < n; year++) {
            if (p > 0 && year % p == r) {
                years |= 1 << year;
            }
        }
        return years;
    }

    private static int choices(int n, int k) {
        int ways = 1;
        for (int i = 0; i < k; i++) {
            ways = ways * (n - i) / (i + 1);
        }
        return ways;
    }

    private static int power(int base, int exponent) {
        int product = 1;
        for (int i = 0; i < exponent; i++) {
            product *= base;
        }
        return product;
    }

    /** THE TEXT: bytes as they were written. */
    private static final class Text {
        private static final int MOST = 64;

        private final int[] bytes;
        private int length;

        Text() {
            bytes = new int[MOST];
            length = 0;
        }

        int length() {
            return length;
        }

        boolean isFull() {
            return length >= MOST;
        }

        void append(int letter) {
            if (!isFull()) {
                bytes[length] = letter;
                length++;
            }
        }

        void clear() {
            length = 0;
        }

        /** The byte at a place, or NONE if there is none. */
        int at(int place) {
            return place >= 0 && place < length ? bytes[place] : NONE;
        }
    }

    /** THE CASE as it is told: the PARTS of each kind, each with the values of its bytes. */
    private static final class Told {
        private static final int NO_KIND = -1;
        private static final int NO_VALUE = -1;
        private static final int MOST_CONTRACTS = 5, MOST_BIRTHS = 3, MOST_TIDES = 3, MOST_DEBTS = 6;
        private static final int MOST_PARTS = 6, MOST_VALUES = 5;
        private static final int CELLS = KINDS * MOST_PARTS * MOST_VALUES;

        private final int[] sizes;
        private final int[] cells;

        Told() {
            sizes = new int[KINDS];
            cells = new int[CELLS];
        }

        int sizeOf(int kind) {
            return kind >= 0 && kind < KINDS ? sizes[kind] : 0;
        }

        int startOf(int contract) {
            return valueAt(CONTRACTS, contract, 0);
        }

        /** v: a DAY by NAME, that many days by COUNT. */
        int lengthOf(int contract) {
            return valueAt(CONTRACTS, contract, 2);
        }

        int latestOf(int contract) {
            return valueAt(CONTRACTS, contract, 3);
        }

        int leastOf(int contract) {
            return valueAt(CONTRACTS, contract, 4);
        }

        /** The CONTRACTS, as bits, that are told by COUNT. */
        int countedContracts() {
            int bits = 0;
            for (int contract = 0; contract < sizeOf(CONTRACTS); contract++) {
                bits |= valueAt(CONTRACTS, contract, 1) << contract;
            }
            return bits;
        }

        int birthDay(int birth) {
            return valueAt(BIRTHS, birth, 0);
        }

        int fullAge(int birth) {
            return valueAt(BIRTHS, birth, 1);
        }

        int tideEach(int tide) {
            return valueAt(TIDES, tide, 0);
        }

        int tideFirst(int tide) {
            return valueAt(TIDES, tide, 1);
        }

        int debtor(int debt) {
            return valueAt(DEBTS, debt, 0);
        }

        int creditor(int debt) {
            return valueAt(DEBTS, debt, 1);
        }

        int debtOf(int debt) {
            return valueAt(DEBTS, debt, 2);
        }

        /** Takes the PARTS that a text tells; answers its FAULT, or NONE. */
        int readFrom(Text text) {
            for (int kind = 0; kind < KINDS; kind++) {
                sizes[kind] = 0;
            }
            if (text.at(0) != 'M') {
                return 0;
            }
            int at = 1;
            while (at < text.length()) {
                int kind = kindBy(text.at(at));
                if (kind == NO_KIND || sizeOf(kind) >= mostOf(kind)) {
                    return at;
                }
                int fault = readPart(text, at + 1, kind);
                if (fault != NONE) {
                    return fault;
                }
                at += 1 + signsOf(kind).length();
            }
            return NONE;
        }

        /** No byte stands behind a text, so one that ends too early has its fault at its length. */
        private int readPart(Text text, int from, int kind) {
            String signs = signsOf(kind);
            int before = NO_VALUE;
            for (int i = 0; i < signs.length(); i++) {
                int value = valueBy(signs.charAt(i), text.at(from + i), before);
                if (value == NO_VALUE) {
                    return from + i;
                }
                setValue(kind, sizeOf(kind), i, value);
                before = value;
            }
            sizes[kind]++;
            return NONE;
        }

        private int valueAt(int kind, int number, int field) {
            int cell = cellOf(kind, number, field);
            return cell >= 0 && cell < CELLS ? cells[cell] : 0;
        }

        private void setValue(int kind, int number, int field, int value) {
            int cell = cellOf(kind, number, field);
            if (cell >= 0 && cell < CELLS) {
                cells[cell] = value;
            }
        }

        /** Every PART has as much room as the longest one, so that its cell needs no search. */
        private static int cellOf(int kind, int number, int field) {
            return (kind * MOST_PARTS + number) * MOST_VALUES + field;
        }

        private static int kindBy(int letter) {
            switch (letter) {
                case 'C':
                    return CONTRACTS;
                case 'B':
                    return BIRTHS;
                case 'T':
                    return TIDES;
                case 'O':
                    return DEBTS;
                default:
                    return NO_KIND;
            }
        }

        private static int mostOf(int kind) {
            switch (kind) {
                case CONTRACTS:
                    return MOST_CONTRACTS;
                case BIRTHS:
                    return MOST_BIRTHS;
                case TIDES:
                    return MOST_TIDES;
                default:
                    return MOST_DEBTS;
            }
        }

        /** What each byte behind a PART's letter is, by the signs that valueBy knows. */
        private static String signsOf(int kind) {
            switch (kind) {
                case CONTRACTS:
                    return "dkvdn";
                case BIRTHS:
                    return "dn";
                case TIDES:
                    return "en";
                default:
                    return "pqo";
            }
        }

        /** The value of a byte by what it is to be, knowing the value before it; or NO_VALUE. */
        private static int valueBy(int sign, int letter, int before) {
            switch (sign) {
                case 'd':
                    return dayBy(letter);
                case 'k':
                    return figureBy(letter, '0', '1');
                case 'v':
                    return before == 0 ? dayBy(letter) : figureBy(letter, '0', '9');
                case 'n':
                    return figureBy(letter, '0', '9');
                case 'e':
                    return figureBy(letter, '2', '9');
                case 'o':
                    return figureBy(letter, '1', '9');
                case 'p':
                    return figureBy(letter, '0', '3');
                default:
                    // the other PARTY: nobody owes himself
                    int party = figureBy(letter, '0', '3');
                    return party == before ? NO_VALUE : party;
            }
        }

        private static int dayBy(int letter) {
            return letter >= 'a' && letter <= 'l' ? letter - 'a' : NO_VALUE;
        }

        private static int figureBy(int letter, int least, int most) {
            return letter >= least && letter <= most ? letter - '0' : NO_VALUE;
        }
    }

    /** Where the skipped day is, which CONTRACTS are VOID, which are READ by COUNT. */
    private static final class Standing {
        private int place;
        private int voided;
        private int counted;

        Standing() {
            place = NOWHERE;
            voided = 0;
            counted = 0;
        }

        void begin(int countedContracts) {
            place = NOWHERE;
            voided = 0;
            counted = countedContracts;
        }

        void copyFrom(Standing other) {
            place = other.place;
            voided = other.voided;
            counted = other.counted;
        }

        boolean isVoid(int contract) {
            return (voided >> contract & 1) != 0;
        }

        void turnVoided(int contract) {
            voided ^= 1 << contract;
        }

        boolean isByCount(int contract) {
            return (counted >> contract & 1) != 0;
        }

        void turnReading(int contract) {
            counted ^= 1 << contract;
        }
    }

    /** The ACTS, the first one ahead; of a PUT the place before it, of others the CONTRACT. */
    private static final class Acts {
        private static final int PUT = 0, VOIDED = 1, READ = 2;
        private static final int MOST = 14;

        private final int[] kinds;
        private final int[] numbers;
        private int size;

        Acts() {
            kinds = new int[MOST];
            numbers = new int[MOST];
            size = 0;
        }

        int size() {
            return size;
        }

        void clear() {
            size = 0;
        }

        void add(int kind, int number) {
            if (size >= MOST) {
                forgetFirst();
            }
            kinds[size] = kind;
            numbers[size] = number;
            size++;
        }

        int lastKind() {
            return size > 0 ? kinds[size - 1] : NONE;
        }

        int lastNumber() {
            return size > 0 ? numbers[size - 1] : NONE;
        }

        void removeLast() {
            if (size > 0) {
                size--;
            }
        }

        private void forgetFirst() {
            for (int i = 1; i < MOST; i++) {
                kinds[i - 1] = kinds[i];
                numbers[i - 1] = numbers[i];
            }
            size = MOST - 1;
        }
    }

    /** What was SEEN: which CONTRACT ended on which DAY. */
    private static final class Sightings {
        private static final int MOST = 6;

        private final int[] contracts;
        private final int[] days;
        private int size;

        Sightings() {
            contracts = new int[MOST];
            days = new int[MOST];
            size = 0;
        }

        int size() {
            return size;
        }

        boolean isFull() {
            return size >= MOST;
        }

        void clear() {
            size = 0;
        }

        void add(int contract, int day) {
            if (!isFull()) {
                contracts[size] = contract;
                days[size] = day;
                size++;
            }
        }

        int contractAt(int i) {
            return i >= 0 && i < size ? contracts[i] : NONE;
        }

        int dayAt(int i) {
            return i >= 0 && i < size ? days[i] : NONE;
        }
    }

    /** Two sides that strike GAPS by turns; a set of some of the GAPS is bits of their numbers. */
    private static final class Sides {
        private static final int LEAST_GAPS = 2, MOST_GAPS = 6;
        private static final int SETS = 64;

        private final int[] gaps;
        private final int[] lasts;
        private int size;
        private int struck;

        Sides() {
            gaps = new int[MOST_GAPS];
            lasts = new int[SETS];
            size = 0;
            struck = NONE;
        }

        /** Settles the lesser sets first: what is left of a set hangs on those with one less. */
        void play(int set, int a, int b) {
            list(set);
            for (int some = 1; some < 1 << size; some++) {
                boolean firstsTurn = (size - Integer.bitCount(some)) % 2 == 0;
                settle(some, firstsTurn ? a : b);
            }
        }

        int lastLeft() {
            int whole = (1 << size) - 1;
            return lasts[whole];
        }

        int firstStruck() {
            return struck;
        }

        private void list(int set) {
            size = 0;
            for (int gap = 0; gap < GAPS; gap++) {
                if ((set >> gap & 1) != 0 && size < MOST_GAPS) {
                    gaps[size] = gap;
                    size++;
                }
            }
        }

        /** The whole set is settled last, so that its strike stays as the first one. */
        private void settle(int some, int own) {
            int nearest = NONE;
            for (int i = 0; i < size; i++) {
                if ((some >> i & 1) != 0) {
                    int last = lastWithout(some, i);
                    if (nearest == NONE || Math.abs(last - own) < Math.abs(nearest - own)) {
                        nearest = last;
                        struck = gaps[i];
                    }
                }
            }
            lasts[some] = nearest;
        }

        private int lastWithout(int some, int i) {
            int rest = some ^ 1 << i;
            return rest == 0 ? gaps[i] : lasts[rest];
        }
    }
}
