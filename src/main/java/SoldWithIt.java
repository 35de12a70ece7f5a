import java.util.Arrays;

/** A street in which a house is sold, at the stroke of noon, with all that are in it. */
public final class SoldWithIt {
    public static final int NONE = -1, BAD = -2, NOT = -3, FULL = -4;

    /** Added to a refusal where any number may be an answer. */
    private static final int ANY = -100000;

    /** What get() answers where there is no item. */
    private static final int LEAST = -2147483648;

    private static final int NULL = 1, INDEX = 2, CAST = 3, STORE = 4, SIZE = 5;
    private static final int WITHIN = 1, CHAIN = 2, ONCE = 4;
    private static final int LOCKED = 2;

    /** HOUSES, PEOPLE and FACTS at most. */
    private static final int MOST = 8;
    private static final int MOST_SALES = 12;
    private static final int MOST_ITEMS = 48;
    private static final int SHEETS = 4;
    private static final int MOST_PLACED = 4;
    private static final int MOST_DEEDS = 4;

    private final Text[] texts = {new Text(30), new Text(24)};
    private final Street street = new Street();
    private final Sales sales = new Sales();
    private final Stroke stroke = new Stroke();
    private final Tastes tastes = new Tastes();
    private final Rows rows = new Rows();
    private final Deeds deeds = new Deeds();
    private final Facts facts = new Facts();
    private final Sheet[] sheets = {new Sheet(), new Sheet(), new Sheet(), new Sheet()};
    private boolean strokeStands = false;
    private int latestFinding = 0;

    public SoldWithIt() {
    }

    // ---- the street

    public int type(int text, int b) {
        if (noText(text) || b < 0 || b > 255) {
            return BAD;
        }
        if (!texts[text].takes(b)) {
            return FULL;
        }
        retell();
        return texts[text].size;
    }

    public int wipe(int text) {
        if (noText(text)) {
            return BAD;
        }
        int had = texts[text].size;
        texts[text].size = 0;
        retell();
        return had;
    }

    public int fault(int text) {
        if (noText(text)) {
            return BAD;
        }
        return text == 0 ? Street.wrongHouse(texts[0]) : Street.wrongPerson(texts[1]);
    }

    public int house(int house, int what) {
        if (noHouse(house) || what < 0 || what > 2) {
            return BAD;
        }
        if (what == 0) {
            return street.owner[house];
        }
        return what == 1 ? street.price[house] : street.inside[house + 1];
    }

    public int person(int person, int what) {
        if (nobody(person) || what < 0 || what > 2) {
            return BAD;
        }
        if (what == 0) {
            return street.kind[person];
        }
        return what == 1 ? houseAt(street.spot[person]) : street.owned[person];
    }

    public int law(int what, int v) {
        if (what < 0 || what > 2 || v < 0 || v > 1) {
            return BAD;
        }
        int bit = 1 << what;
        int was = (sales.law & bit) == 0 ? 0 : 1;
        sales.law = v == 1 ? sales.law | bit : sales.law & ~bit;
        recount();
        return was;
    }

    public int sale(int house, int buyer) {
        if (noNumber(house) || noNumber(buyer)) {
            return BAD;
        }
        if (!sales.takes(house, buyer)) {
            return FULL;
        }
        recount();
        return sales.size;
    }

    public int read(int s) {
        if (noSheet(s)) {
            return BAD;
        }
        Sheet sheet = sheets[s];
        if (sheet.isLost()) {
            return found(NULL);
        }
        int took = 0;
        for (int i = 0; i + 1 < sheet.size; i += 2) {
            if (sale(sheet.items[i], sheet.items[i + 1]) < 0) {
                break;
            }
            took++;
        }
        return took;
    }

    public int undo() {
        if (sales.size == 0) {
            return NOT;
        }
        sales.size--;
        recount();
        return sales.size;
    }

    // ---- the stroke

    public int whose(int house, int k) {
        if (noHouse(house) || k < 0 || k > sales.size) {
            return BAD;
        }
        return behind(k).owner[house];
    }

    public int keeper(int person, int k) {
        if (nobody(person) || k < 0 || k > sales.size) {
            return BAD;
        }
        return behind(k).keeper[person];
    }

    public int sold(int person, int k) {
        if (nobody(person) || k < 0 || k > sales.size) {
            return BAD;
        }
        return behind(k).times[person];
    }

    public int length(int sale) {
        if (sale < 0 || sale >= sales.size) {
            return BAD;
        }
        return behind(sale + 1).latestLength;
    }

    // ---- worth, liking, places

    public int worth(int to, int person, int v) {
        if (noTaste(to, person, v)) {
            return ANY + BAD;
        }
        rows.forgetBest();
        return Tastes.swap(tastes.worth, to, person, v);
    }

    public int like(int person, int keeper, int v) {
        if (noTaste(person, keeper, v)) {
            return ANY + BAD;
        }
        rows.forgetRest();
        return Tastes.swap(tastes.liking, person, keeper, v);
    }

    public int gain(int person) {
        if (nobody(person)) {
            return ANY + BAD;
        }
        Stroke last = behind(sales.size);
        int sum = 0;
        for (int h = 0; h < street.houses; h++) {
            if (last.owner[h] == person) {
                sum += street.price[h];
            }
        }
        for (int p = 0; p < street.people; p++) {
            if (p != person && last.keeper[p] == person) {
                sum += tastes.worthOf(person, p);
            }
        }
        return sum;
    }

    public int best(int person, int who) {
        if (nobody(person) || who != NONE && nobody(who)) {
            return ANY + BAD;
        }
        if (street.people > MOST_PLACED) {
            return ANY + FULL;
        }
        rows.fill(street, sales);
        int row = rows.bestRow(person, tastes);
        return who == NONE ? rows.gainBy(row, person, tastes) : houseAt(rows.spotIn(row, who));
    }

    public int rest(int who) {
        if (who < -2 || who >= street.people) {
            return ANY + BAD;
        }
        if (street.people > MOST_PLACED) {
            return ANY + FULL;
        }
        rows.fill(street, sales);
        rows.findRest(street, tastes);
        if (who == -2) {
            return rows.rests;
        }
        if (who == NONE) {
            return rows.rests > 0 ? 1 : 0;
        }
        return rows.rests > 0 ? houseAt(rows.spotIn(rows.firstRest, who)) : ANY + NOT;
    }

    public int out(int person) {
        if (nobody(person)) {
            return BAD;
        }
        int at = houseAt(street.spot[person]);
        int told = sales.toldHouses();
        if (at == NONE || (told >> at & 1) == 0) {
            return 0;
        }
        if (street.kind[person] == LOCKED) {
            return NONE;
        }
        int fewest = Math.min(at + 1, street.houses - at);
        for (int h = 0; h < street.houses; h++) {
            if ((told >> h & 1) == 0) {
                fewest = Math.min(fewest, Math.abs(h - at));
            }
        }
        return fewest;
    }

    // ---- changes, dinners

    public int value(int house, int person) {
        if (noHouse(house) || nobody(person)) {
            return ANY + BAD;
        }
        return valueTo(house, person);
    }

    public int change(int a, int b) {
        if (noHouse(a) || noHouse(b) || a == b) {
            return BAD;
        }
        // An OWNER who is not there still has a WORTH of others, and so a VALUE of HOUSES.
        int ofA = street.owner[a];
        int ofB = street.owner[b];
        boolean both = ofA != ofB
            && valueTo(b, ofA) > valueTo(a, ofA)
            && valueTo(a, ofB) > valueTo(b, ofB);
        return both ? 1 : 0;
    }

    public int changes() {
        int pairs = 0;
        for (int a = 0; a < street.houses; a++) {
            for (int b = a + 1; b < street.houses; b++) {
                pairs += change(a, b);
            }
        }
        return pairs;
    }

    public int should(int s) {
        if (noSheet(s)) {
            return BAD;
        }
        Sheet sheet = sheets[s];
        if (sheet.isLost()) {
            return found(NULL);
        }
        if (street.houses > MOST_DEEDS) {
            return FULL;
        }
        if (sheet.size < street.houses) {
            return NOT;
        }
        int goal = 0;
        for (int h = 0; h < street.houses; h++) {
            if (nobody(sheet.items[h])) {
                return NOT;
            }
            goal = Deeds.withOwner(goal, h, sheet.items[h]);
        }
        deeds.fill(street, sales.law);
        return deeds.fewestTo(goal);
    }

    public int come(int host, int invited) {
        if (nobody(host) || invited < 0 || invited > 255 || (invited >> host & 1) == 1) {
            return BAD;
        }
        return comers(host, invited & everybody());
    }

    public int invite(int host, int wanted) {
        if (nobody(host) || (wanted & ~everybody()) != 0 || (wanted >> host & 1) == 1) {
            return BAD;
        }
        int fewest = NONE;
        int all = everybody();
        for (int guests = wanted; guests <= all; guests++) {
            boolean fits = (guests & wanted) == wanted && (guests >> host & 1) == 0;
            boolean fewer = fewest == NONE || Integer.bitCount(guests) < Integer.bitCount(fewest);
            if (fits && fewer && (comers(host, guests) & wanted) == wanted) {
                fewest = guests;
            }
        }
        return fewest;
    }

    // ---- where all were

    public int fact(int person, int keeper) {
        if (noNumber(person) || noNumber(keeper)) {
            return BAD;
        }
        if (!facts.takes(person, keeper)) {
            return FULL;
        }
        rows.forgetWays();
        return facts.size;
    }

    public int forget() {
        int had = facts.size;
        facts.size = 0;
        rows.forgetWays();
        return had;
    }

    public int were(int person) {
        if (person != NONE && nobody(person)) {
            return BAD;
        }
        if (street.people > MOST_PLACED) {
            return FULL;
        }
        rows.fill(street, sales);
        rows.findWays(facts);
        return person == NONE ? rows.ways : rows.can[person];
    }

    public int bed() {
        if (street.people > MOST_PLACED) {
            return FULL;
        }
        rows.fill(street, sales);
        rows.findWays(facts);
        int bits = 0;
        for (int p = 0; p < street.people; p++) {
            if ((rows.can[p] & Rows.spotBit(street.spot[p])) == 0) {
                bits |= 1 << p;
            }
        }
        return bits;
    }

    // ---- sheets

    public int sheet(int s, int form, int n) {
        if (noSheet(s) || noForm(form) || n > MOST_ITEMS) {
            return BAD;
        }
        if (n < 0) {
            return found(SIZE);
        }
        sheets[s].renew(form, n);
        return n;
    }

    public int lose(int s) {
        if (noSheet(s)) {
            return BAD;
        }
        if (sheets[s].isLost()) {
            return found(NULL);
        }
        sheets[s].form = NONE;
        return sheets[s].size;
    }

    public int put(int s, int form, int i, int v) {
        if (noSheet(s) || noForm(form)) {
            return BAD;
        }
        int finding = sheets[s].findingAt(form, i);
        if (finding != 0) {
            return found(finding);
        }
        sheets[s].store(i, v);
        return 1;
    }

    public int get(int s, int form, int i) {
        if (noSheet(s) || noForm(form)) {
            return LEAST;
        }
        int finding = sheets[s].findingAt(form, i);
        if (finding != 0) {
            found(finding);
            return LEAST;
        }
        return sheets[s].items[i];
    }

    public int copy(int s, int i, int t, int j, int n) {
        if (noSheet(s) || noSheet(t)) {
            return BAD;
        }
        Sheet from = sheets[s];
        Sheet to = sheets[t];
        if (from.isLost() || to.isLost()) {
            return found(NULL);
        }
        if (from.form != to.form) {
            return found(STORE);
        }
        if (!from.holds(i, n) || !to.holds(j, n)) {
            return found(INDEX);
        }
        System.arraycopy(from.items, i, to.items, j, n);
        return 1;
    }

    public int write(int s) {
        if (noSheet(s)) {
            return BAD;
        }
        Sheet sheet = sheets[s];
        if (sheet.isLost()) {
            return found(NULL);
        }
        int n = Math.min(sheet.size, street.people);
        Stroke last = behind(sales.size);
        for (int p = 0; p < n; p++) {
            sheet.store(p, last.keeper[p]);
        }
        return n;
    }

    public int count(int what) {
        switch (what) {
            case 0: return street.houses;
            case 1: return street.people;
            case 2: return texts[0].size;
            case 3: return texts[1].size;
            case 4: return sales.size;
            case 5: return facts.size;
            case 6: return allSold();
            case 7: return lockedIn();
            case 8: return latestFinding;
            default: return BAD;
        }
    }

    public long digest() {
        long h = 17;
        for (int what = 0; what <= 7; what++) {
            h = 31 * h + count(what);
        }
        h = 31 * h + fault(0);
        h = 31 * h + fault(1);
        for (int i = 0; i < street.houses; i++) {
            h = withHouse(h, i);
        }
        for (int p = 0; p < street.people; p++) {
            h = withPerson(h, p);
        }
        for (int i = 0; i < sales.size; i++) {
            h = 31 * h + length(i);
        }
        return 31 * h + changes();
    }

    // ---- behind the face

    private long withHouse(long before, int house) {
        long h = before;
        for (int what = 0; what <= 2; what++) {
            h = 31 * h + house(house, what);
        }
        h = 31 * h + whose(house, sales.size);
        for (int p = 0; p < street.people; p++) {
            h = 31 * h + value(house, p);
        }
        return h;
    }

    private long withPerson(long before, int person) {
        long h = before;
        for (int what = 0; what <= 2; what++) {
            h = 31 * h + person(person, what);
        }
        h = 31 * h + keeper(person, sales.size);
        h = 31 * h + sold(person, sales.size);
        h = 31 * h + gain(person);
        h = 31 * h + out(person);
        return 31 * h + come(person, everybody() & ~(1 << person));
    }

    private void retell() {
        street.tell(texts[0], texts[1]);
        recount();
    }

    /** What was worked out of the street, the LAW and the SALES stands no more. */
    private void recount() {
        strokeStands = false;
        rows.forgetAll();
        deeds.forgetAll();
    }

    private Stroke behind(int k) {
        if (!strokeStands || stroke.done > k) {
            stroke.begin(street);
            strokeStands = true;
        }
        for (int i = stroke.done; i < k; i++) {
            stroke.next(street, street.inside, sales);
        }
        return stroke;
    }

    private int valueTo(int house, int person) {
        int sum = street.price[house];
        for (int p = 0; p < street.people; p++) {
            if (p != person && street.spot[p] == house + 1) {
                sum += tastes.worthOf(person, p);
            }
        }
        return sum;
    }

    private int comers(int host, int guests) {
        int bits = 0;
        for (int p = 0; p < street.people; p++) {
            if ((guests >> p & 1) == 1 && likingAt(p, host, guests) >= 0) {
                bits |= 1 << p;
            }
        }
        return bits;
    }

    private int likingAt(int person, int host, int guests) {
        int sum = tastes.likingOf(person, host);
        for (int p = 0; p < street.people; p++) {
            if (p != person && (guests >> p & 1) == 1) {
                sum += tastes.likingOf(person, p);
            }
        }
        return sum;
    }

    private int allSold() {
        Stroke last = behind(sales.size);
        int sum = 0;
        for (int p = 0; p < street.people; p++) {
            sum += last.times[p];
        }
        return sum;
    }

    private int lockedIn() {
        int n = 0;
        for (int p = 0; p < street.people; p++) {
            if (street.kind[p] == LOCKED) {
                n++;
            }
        }
        return n;
    }

    private int found(int finding) {
        latestFinding = finding;
        return -10 - finding;
    }

    private int everybody() {
        return (1 << street.people) - 1;
    }

    private boolean noHouse(int house) {
        return house < 0 || house >= street.houses;
    }

    private boolean nobody(int person) {
        return person < 0 || person >= street.people;
    }

    private static boolean noText(int text) {
        return text < 0 || text > 1;
    }

    private static boolean noNumber(int n) {
        return n < 0 || n >= MOST;
    }

    private static boolean noTaste(int a, int b, int v) {
        return noNumber(a) || noNumber(b) || a == b || v < -9 || v > 9;
    }

    private static boolean noSheet(int s) {
        return s < 0 || s >= SHEETS;
    }

    private static boolean noForm(int form) {
        return form < 0 || form > 2;
    }

    /** A SPOT is 0 for the street, else a HOUSE's number and one: the street is ahead of HOUSE 0. */
    private static int houseAt(int spot) {
        return spot == 0 ? NONE : spot - 1;
    }

    private static final class Text {
        final int[] bytes;
        int size = 0;

        Text(int most) {
            bytes = new int[most];
        }

        boolean takes(int b) {
            if (size >= bytes.length) {
                return false;
            }
            bytes[size] = b;
            size++;
            return true;
        }
    }

    /** What the two texts tell. */
    private static final class Street {
        private static final String KINDS = "ogl";
        private static final int HOUSES_END = 24, PEOPLE_END = 16;

        int houses = 0;
        int people = 0;
        final int[] owner = new int[MOST];
        final int[] price = new int[MOST];
        final int[] owned = new int[MOST];
        final int[] kind = new int[MOST];
        final int[] spot = new int[MOST];
        /** Who is at each SPOT, as bits. */
        final int[] inside = new int[MOST + 1];

        static int wrongHouse(Text text) {
            for (int i = 0; i < text.size; i++) {
                if (i == HOUSES_END || !fitsHouse(i % 3, text.bytes[i])) {
                    return i;
                }
            }
            return text.size == 0 || text.size % 3 == 2 ? NONE : text.size;
        }

        static int wrongPerson(Text text) {
            for (int i = 0; i < text.size; i++) {
                if (i == PEOPLE_END || !fitsPerson(i % 2, text.bytes[i])) {
                    return i;
                }
            }
            return text.size % 2 == 0 ? NONE : text.size;
        }

        private static boolean fitsHouse(int part, int b) {
            if (part == 2) {
                return b == ';';
            }
            return b >= '0' && b <= (part == 0 ? '7' : '9');
        }

        private static boolean fitsPerson(int part, int b) {
            if (part == 0) {
                return KINDS.indexOf((char) b) >= 0;
            }
            return b == '-' || b >= '0' && b <= '7';
        }

        void tell(Text ofHouses, Text ofPeople) {
            houses = wrongHouse(ofHouses) == NONE ? (ofHouses.size + 1) / 3 : 0;
            people = wrongPerson(ofPeople) == NONE ? ofPeople.size / 2 : 0;
            Arrays.fill(owned, 0);
            Arrays.fill(inside, 0);
            for (int h = 0; h < houses; h++) {
                owner[h] = ofHouses.bytes[3 * h] - '0';
                price[h] = ofHouses.bytes[3 * h + 1] - '0';
                owned[owner[h]] |= 1 << h;
            }
            for (int p = 0; p < people; p++) {
                kind[p] = KINDS.indexOf((char) ofPeople.bytes[2 * p]);
                spot[p] = spotOf(ofPeople.bytes[2 * p + 1]);
                inside[spot[p]] |= 1 << p;
            }
        }

        private int spotOf(int b) {
            int house = b - '0';
            return house >= 0 && house < houses ? house + 1 : 0;
        }
    }

    /** The SALES told, and the LAW by which they are done. */
    private static final class Sales {
        int law = WITHIN | CHAIN | ONCE;
        int size = 0;
        final int[] house = new int[MOST_SALES];
        final int[] buyer = new int[MOST_SALES];

        boolean takes(int ofHouse, int toBuyer) {
            if (size >= MOST_SALES) {
                return false;
            }
            house[size] = ofHouse;
            buyer[size] = toBuyer;
            size++;
            return true;
        }

        int toldHouses() {
            int bits = 0;
            for (int i = 0; i < size; i++) {
                bits |= 1 << house[i];
            }
            return bits;
        }
    }

    /** Whose is what and who keeps whom, as one SALE is done behind the other. */
    private static final class Stroke {
        private static final int[] ONESELF = {0, 1, 2, 3, 4, 5, 6, 7};

        final int[] owner = new int[MOST];
        /** HOUSES that each OWNER has, as bits: the same as owner, the other way round. */
        final int[] owns = new int[MOST];
        final int[] keeper = new int[MOST];
        final int[] times = new int[MOST];
        int soldOnce = 0;
        int done = 0;
        int latestLength = 0;

        void begin(Street street) {
            System.arraycopy(street.owner, 0, owner, 0, MOST);
            System.arraycopy(street.owned, 0, owns, 0, MOST);
            System.arraycopy(ONESELF, 0, keeper, 0, MOST);
            Arrays.fill(times, 0);
            soldOnce = 0;
            done = 0;
            latestLength = 0;
        }

        void next(Street street, int[] inside, Sales sales) {
            if (done >= sales.size) {
                return;
            }
            int house = sales.house[done];
            int buyer = sales.buyer[done];
            done++;
            latestLength = 0;
            if (house < street.houses && buyer < street.people) {
                int gone = goneWith(house, buyer, inside, sales.law);
                handOver(gone & 255, buyer);
                keep(gone >> 8, buyer);
            }
        }

        /**
         * The HOUSES (bits 0 to 7) and the PEOPLE (bits 8 to 15) that are sold when a HOUSE is.
         * As no HOUSE is sold twice in a SALE, and one is in one HOUSE only, nobody can be sold
         * twice in it either: so the order within a SALE changes nothing, and sets are enough.
         */
        int goneWith(int house, int buyer, int[] inside, int law) {
            int houses = 1 << house;
            if ((law & WITHIN) == 0) {
                return houses;
            }
            int may = ~(1 << buyer);
            if ((law & ONCE) != 0) {
                may &= ~soldOnce;
            }
            int people = 0;
            int waiting = houses;
            for (int turn = 0; turn < MOST && waiting != 0; turn++) {
                int first = Integer.bitCount((waiting & -waiting) - 1);
                waiting &= waiting - 1;
                int sold = inside[first + 1] & may;
                people |= sold;
                if (sold != 0 && (law & CHAIN) != 0) {
                    int theirs = ownedBy(sold) & ~houses;
                    houses |= theirs;
                    waiting |= theirs;
                }
            }
            return houses | people << 8;
        }

        private int ownedBy(int people) {
            int bits = 0;
            for (int p = 0; p < MOST && people >> p != 0; p++) {
                if ((people >> p & 1) == 1) {
                    bits |= owns[p];
                }
            }
            return bits;
        }

        private void handOver(int houses, int buyer) {
            for (int h = 0; h < MOST && houses >> h != 0; h++) {
                if ((houses >> h & 1) == 1) {
                    owns[owner[h]] &= ~(1 << h);
                    owner[h] = buyer;
                }
            }
            owns[buyer] |= houses;
            latestLength = Integer.bitCount(houses);
        }

        private void keep(int people, int buyer) {
            for (int p = 0; p < MOST && people >> p != 0; p++) {
                if ((people >> p & 1) == 1) {
                    keeper[p] = buyer;
                    times[p]++;
                }
            }
            soldOnce |= people;
        }
    }

    /** What somebody is worth to somebody, and what one likes: for each pair of numbers. */
    private static final class Tastes {
        final int[] worth = new int[MOST * MOST];
        final int[] liking = new int[MOST * MOST];

        static int swap(int[] of, int a, int b, int v) {
            int was = of[a * MOST + b];
            of[a * MOST + b] = v;
            return was;
        }

        int worthOf(int to, int person) {
            return worth[to * MOST + person];
        }

        int likingOf(int person, int keeper) {
            return liking[person * MOST + keeper];
        }
    }

    private static final class Facts {
        int size = 0;
        final int[] person = new int[MOST];
        final int[] keeper = new int[MOST];

        boolean takes(int ofPerson, int hasKeeper) {
            if (size >= MOST) {
                return false;
            }
            person[size] = ofPerson;
            keeper[size] = hasKeeper;
            size++;
            return true;
        }
    }

    /**
     * All rows of SPOTS of up to 4 PEOPLE, from the least on, each with how it ends behind all
     * SALES: worked out once, and kept until the street, the LAW or the SALES change.
     */
    private static final class Rows {
        private static final int MOST_ROWS = 6561;
        /** An end holds a KEEPER (2 bits) of each, and above them the PRICES (7 bits) of each. */
        private static final int KEEPER_BITS = 2, PRICE_BITS = 7, PRICES_FROM = 8;

        private final Stroke stroke = new Stroke();
        private final int[] inside = new int[MOST + 1];
        private final int[] at = new int[MOST_PLACED];
        /** By how much the row's number grows when one goes a SPOT on. */
        private final int[] stride = {1, 1, 1, 1};
        private final int[] bestKnown = {NONE, NONE, NONE, NONE};
        private long[] ends = null;
        private int people = 0;
        private int spots = 1;
        private int size = 1;
        private boolean filled = false;
        private boolean restKnown = false;
        private boolean waysKnown = false;
        int rests = 0;
        int firstRest = NONE;
        int ways = 0;
        /** Where each can have been, as bits. */
        final int[] can = new int[MOST_PLACED];

        void forgetAll() {
            filled = false;
            forgetBest();
            forgetRest();
            forgetWays();
        }

        void forgetBest() {
            Arrays.fill(bestKnown, NONE);
        }

        void forgetRest() {
            restKnown = false;
        }

        void forgetWays() {
            waysKnown = false;
        }

        void fill(Street street, Sales sales) {
            if (filled || street.people > MOST_PLACED) {
                return;
            }
            if (ends == null) {
                // Not in the constructor: most objects never place anybody.
                ends = new long[MOST_ROWS];
            }
            toFirst(street);
            for (int row = 0; row < size; row++) {
                stroke.begin(street);
                for (int i = 0; i < sales.size; i++) {
                    stroke.next(street, inside, sales);
                }
                ends[row] = endOf(street);
                toNext();
            }
            filled = true;
        }

        private void toFirst(Street street) {
            people = street.people;
            spots = street.houses + 1;
            size = 1;
            for (int p = people - 1; p >= 0; p--) {
                stride[p] = size;
                size *= spots;
            }
            Arrays.fill(at, 0);
            Arrays.fill(inside, 0);
            inside[0] = (1 << people) - 1;
        }

        private void toNext() {
            for (int p = people - 1; p >= 0; p--) {
                inside[at[p]] &= ~(1 << p);
                at[p] = at[p] + 1 < spots ? at[p] + 1 : 0;
                inside[at[p]] |= 1 << p;
                if (at[p] != 0) {
                    return;
                }
            }
        }

        private long endOf(Street street) {
            long end = 0;
            for (int p = 0; p < people; p++) {
                end |= (long) stroke.keeper[p] << p * KEEPER_BITS;
            }
            for (int h = 0; h < street.houses; h++) {
                if (stroke.owner[h] < people) {
                    end += (long) street.price[h] << PRICES_FROM + stroke.owner[h] * PRICE_BITS;
                }
            }
            return end;
        }

        private long endAt(int row) {
            return ends == null || row < 0 || row >= size ? 0 : ends[row];
        }

        private static int keeperBy(long end, int person) {
            return (int) (end >> person * KEEPER_BITS) & 3;
        }

        int spotIn(int row, int person) {
            if (row < 0 || person < 0 || person >= people || stride[person] < 1 || spots < 1) {
                return 0;
            }
            return row / stride[person] % spots;
        }

        static int spotBit(int spot) {
            return spot == 0 ? 256 : 1 << spot - 1;
        }

        int gainBy(int row, int person, Tastes tastes) {
            long end = endAt(row);
            int sum = (int) (end >> PRICES_FROM + person * PRICE_BITS) & 127;
            for (int p = 0; p < people; p++) {
                if (p != person && keeperBy(end, p) == person) {
                    sum += tastes.worthOf(person, p);
                }
            }
            return sum;
        }

        int bestRow(int person, Tastes tastes) {
            if (bestKnown[person] != NONE) {
                return bestKnown[person];
            }
            int row = 0;
            int most = gainBy(0, person, tastes);
            for (int r = 1; r < size; r++) {
                int gain = gainBy(r, person, tastes);
                if (gain > most) {
                    most = gain;
                    row = r;
                }
            }
            bestKnown[person] = row;
            return row;
        }

        void findRest(Street street, Tastes tastes) {
            if (restKnown) {
                return;
            }
            rests = 0;
            firstRest = NONE;
            for (int row = 0; row < size; row++) {
                if (allRest(row, street, tastes)) {
                    firstRest = rests == 0 ? row : firstRest;
                    rests++;
                }
            }
            restKnown = true;
        }

        private boolean allRest(int row, Street street, Tastes tastes) {
            for (int p = 0; p < people; p++) {
                boolean stays = street.kind[p] == LOCKED
                    ? spotIn(row, p) == street.spot[p]
                    : !wouldWalk(row, p, tastes);
                if (!stays) {
                    return false;
                }
            }
            return true;
        }

        private boolean wouldWalk(int row, int person, Tastes tastes) {
            int here = tastes.likingOf(person, keeperBy(endAt(row), person));
            int fromStreet = row - spotIn(row, person) * stride[person];
            for (int spot = 0; spot < spots; spot++) {
                long end = endAt(fromStreet + spot * stride[person]);
                if (tastes.likingOf(person, keeperBy(end, person)) > here) {
                    return true;
                }
            }
            return false;
        }

        void findWays(Facts facts) {
            if (waysKnown) {
                return;
            }
            ways = 0;
            Arrays.fill(can, 0);
            for (int row = 0; row < size; row++) {
                if (allSo(endAt(row), facts)) {
                    ways++;
                    for (int p = 0; p < people; p++) {
                        can[p] |= spotBit(spotIn(row, p));
                    }
                }
            }
            waysKnown = true;
        }

        private boolean allSo(long end, Facts facts) {
            for (int i = 0; i < facts.size; i++) {
                int person = facts.person[i];
                if (person >= people || keeperBy(end, person) != facts.keeper[i]) {
                    return false;
                }
            }
            return true;
        }
    }

    /**
     * The fewest SALES to each way in which up to 4 HOUSES can be owned (3 bits for each
     * OWNER): worked out once, and kept until the street or the LAW change.
     */
    private static final class Deeds {
        private static final int OWNER_BITS = 3, MOST_WAYS = 4096;

        private final Stroke stroke = new Stroke();
        private short[] fewest = null;
        private short[] queue = null;
        private int waiting = 0;
        private boolean filled = false;

        static int withOwner(int way, int house, int owner) {
            int place = house * OWNER_BITS;
            return way & ~(7 << place) | owner << place;
        }

        void forgetAll() {
            filled = false;
        }

        int fewestTo(int way) {
            return fewest == null || way < 0 || way >= MOST_WAYS ? NONE : fewest[way];
        }

        void fill(Street street, int law) {
            if (filled || street.houses > MOST_DEEDS) {
                return;
            }
            if (fewest == null || queue == null) {
                // Not in the constructor: most objects are never asked.
                fewest = new short[MOST_WAYS];
                queue = new short[MOST_WAYS];
            }
            Arrays.fill(fewest, (short) NONE);
            waiting = 0;
            int told = 0;
            for (int h = 0; h < street.houses; h++) {
                told = withOwner(told, h, street.owner[h]);
            }
            reach(told, 0);
            stroke.begin(street);
            for (int i = 0; i < MOST_WAYS && i < waiting; i++) {
                sellFrom(queue[i], street, law);
            }
            filled = true;
        }

        private void reach(int way, int steps) {
            if (fewest[way] == NONE && waiting < MOST_WAYS) {
                fewest[way] = (short) steps;
                queue[waiting] = (short) way;
                waiting++;
            }
        }

        private void sellFrom(int way, Street street, int law) {
            Arrays.fill(stroke.owns, 0);
            for (int h = 0; h < street.houses; h++) {
                stroke.owns[way >> h * OWNER_BITS & 7] |= 1 << h;
            }
            for (int h = 0; h < street.houses; h++) {
                for (int buyer = 0; buyer < street.people; buyer++) {
                    int gone = stroke.goneWith(h, buyer, street.inside, law) & 255;
                    reach(handedOver(way, gone, buyer), fewest[way] + 1);
                }
            }
        }

        private static int handedOver(int way, int houses, int buyer) {
            int after = way;
            for (int h = 0; h < MOST_DEEDS; h++) {
                if ((houses >> h & 1) == 1) {
                    after = withOwner(after, h, buyer);
                }
            }
            return after;
        }
    }

    private static final class Sheet {
        /** NONE: the SHEET is LOST. */
        int form = NONE;
        int size = 0;
        final int[] items = new int[MOST_ITEMS];

        boolean isLost() {
            return form == NONE;
        }

        void renew(int ofForm, int n) {
            form = ofForm;
            size = n;
            Arrays.fill(items, 0);
        }

        int findingAt(int asForm, int i) {
            if (isLost()) {
                return NULL;
            }
            if (asForm != form) {
                return CAST;
            }
            return i < 0 || i >= size ? INDEX : 0;
        }

        boolean holds(int from, int n) {
            return from >= 0 && n >= 0 && n <= size && from <= size - n;
        }

        void store(int i, int v) {
            if (form == 0) {
                items[i] = (byte) v;
            } else if (form == 1) {
                items[i] = (short) v;
            } else {
                items[i] = v;
            }
        }
    }
}
