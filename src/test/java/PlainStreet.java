import java.util.ArrayDeque;
import java.util.ArrayList;
import java.util.Arrays;
import java.util.HashMap;
import java.util.List;
import java.util.Map;

/**
 * The document's words once more, as plainly as can be and without a thought for speed: nothing
 * is kept from call to call but what was told, sales are done by the order that the document
 * tells, and places are tried one by one. ModelTest asks it and the class the same.
 */
final class PlainStreet {
    private static final int ANY = -100000;
    private static final int STREET = -1;

    private final StringBuilder[] texts = {new StringBuilder(), new StringBuilder()};
    private final List<int[]> sales = new ArrayList<>();
    private final List<int[]> facts = new ArrayList<>();
    private final boolean[] law = {true, true, true};
    private final int[][] worth = new int[8][8];
    private final int[][] liking = new int[8][8];
    private final int[] forms = new int[4];
    private final int[][] rows = new int[4][];
    private int finding = 0;

    /** What is so behind some sales. */
    private static final class State {
        int[] owner;
        int[] keeper;
        int[] times;
        int length;
    }

    // ---- what the texts tell

    private int faultOf(int text) {
        String t = texts[text].toString();
        String[] parts = text == 0
            ? new String[] {"01234567", "0123456789", ";"}
            : new String[] {"ogl", "01234567-"};
        int whole = 0;
        for (int i = 0; i < t.length(); i++) {
            int part = i % parts.length;
            if (part == 0 && whole == 8) {
                return i;
            }
            if (parts[part].indexOf(t.charAt(i)) < 0) {
                return i;
            }
            if (part == 1) {
                whole++;
            }
        }
        if (t.isEmpty()) {
            return -1;
        }
        boolean ended = text == 0 ? t.length() % 3 == 2 : t.length() % 2 == 0;
        return ended ? -1 : t.length();
    }

    private String well(int text) {
        return faultOf(text) == -1 ? texts[text].toString() : "";
    }

    private int houses() {
        String t = well(0);
        return t.isEmpty() ? 0 : t.split(";").length;
    }

    private int people() {
        return well(1).length() / 2;
    }

    private int owner(int house) {
        return well(0).split(";")[house].charAt(0) - '0';
    }

    private int price(int house) {
        return well(0).split(";")[house].charAt(1) - '0';
    }

    private int kind(int person) {
        return "ogl".indexOf(well(1).charAt(2 * person));
    }

    private int placeTold(int person) {
        char c = well(1).charAt(2 * person + 1);
        return c == '-' || c - '0' >= houses() ? STREET : c - '0';
    }

    private int[] placesTold() {
        int[] places = new int[people()];
        for (int p = 0; p < places.length; p++) {
            places[p] = placeTold(p);
        }
        return places;
    }

    private boolean isHouse(int h) {
        return h >= 0 && h < houses();
    }

    private boolean isPerson(int p) {
        return p >= 0 && p < people();
    }

    private static boolean isNumber(int n) {
        return n >= 0 && n <= 7;
    }

    // ---- sales

    private State start() {
        State state = new State();
        state.owner = new int[houses()];
        for (int h = 0; h < state.owner.length; h++) {
            state.owner[h] = owner(h);
        }
        state.keeper = new int[people()];
        state.times = new int[people()];
        for (int p = 0; p < state.keeper.length; p++) {
            state.keeper[p] = p;
        }
        return state;
    }

    private void sell(State state, int house, int buyer, int[] places) {
        state.length = 0;
        if (house < state.owner.length && buyer < state.keeper.length) {
            sellOne(state, house, buyer, places, new boolean[8]);
        }
    }

    private void sellOne(State state, int house, int buyer, int[] places, boolean[] gone) {
        if (gone[house]) {
            return;
        }
        gone[house] = true;
        state.owner[house] = buyer;
        state.length++;
        if (!law[0]) {
            return;
        }
        for (int p = 0; p < places.length; p++) {
            if (places[p] != house || p == buyer || law[2] && state.times[p] > 0) {
                continue;
            }
            state.keeper[p] = buyer;
            state.times[p]++;
            for (int h = 0; law[1] && h < state.owner.length; h++) {
                if (state.owner[h] == p) {
                    sellOne(state, h, buyer, places, gone);
                }
            }
        }
    }

    private State behind(int k, int[] places) {
        State state = start();
        for (int i = 0; i < k; i++) {
            sell(state, sales.get(i)[0], sales.get(i)[1], places);
        }
        return state;
    }

    private State end(int[] places) {
        return behind(sales.size(), places);
    }

    private int gainBy(State state, int person, int[] prices) {
        int sum = 0;
        for (int h = 0; h < state.owner.length; h++) {
            sum += state.owner[h] == person ? prices[h] : 0;
        }
        for (int p = 0; p < state.keeper.length; p++) {
            sum += p != person && state.keeper[p] == person ? worth[person][p] : 0;
        }
        return sum;
    }

    private int[] prices() {
        int[] prices = new int[houses()];
        for (int h = 0; h < prices.length; h++) {
            prices[h] = price(h);
        }
        return prices;
    }

    /** All rows of places, from the least on. */
    private List<int[]> allPlaces() {
        List<int[]> all = new ArrayList<>();
        place(new int[people()], 0, houses(), all);
        return all;
    }

    private static void place(int[] places, int p, int houses, List<int[]> all) {
        if (p == places.length) {
            all.add(places.clone());
            return;
        }
        for (int at = STREET; at < houses; at++) {
            places[p] = at;
            place(places, p + 1, houses, all);
        }
    }

    // ---- the face

    int type(int text, int b) {
        if (text != 0 && text != 1 || b < 0 || b > 255) {
            return -2;
        }
        if (texts[text].length() == (text == 0 ? 30 : 24)) {
            return -4;
        }
        texts[text].append((char) b);
        return texts[text].length();
    }

    int wipe(int text) {
        if (text != 0 && text != 1) {
            return -2;
        }
        int had = texts[text].length();
        texts[text].setLength(0);
        return had;
    }

    int fault(int text) {
        return text != 0 && text != 1 ? -2 : faultOf(text);
    }

    int house(int house, int what) {
        if (!isHouse(house) || what < 0 || what > 2) {
            return -2;
        }
        if (what < 2) {
            return what == 0 ? owner(house) : price(house);
        }
        int bits = 0;
        for (int p = 0; p < people(); p++) {
            bits += placeTold(p) == house ? 1 << p : 0;
        }
        return bits;
    }

    int person(int person, int what) {
        if (!isPerson(person) || what < 0 || what > 2) {
            return -2;
        }
        if (what < 2) {
            return what == 0 ? kind(person) : placeTold(person);
        }
        int bits = 0;
        for (int h = 0; h < houses(); h++) {
            bits += owner(h) == person ? 1 << h : 0;
        }
        return bits;
    }

    int law(int what, int v) {
        if (what < 0 || what > 2 || v != 0 && v != 1) {
            return -2;
        }
        int was = law[what] ? 1 : 0;
        law[what] = v == 1;
        return was;
    }

    int sale(int house, int buyer) {
        if (!isNumber(house) || !isNumber(buyer)) {
            return -2;
        }
        if (sales.size() == 12) {
            return -4;
        }
        sales.add(new int[] {house, buyer});
        return sales.size();
    }

    int read(int s) {
        if (s < 0 || s > 3) {
            return -2;
        }
        if (rows[s] == null) {
            return found(1);
        }
        int took = 0;
        while (took < rows[s].length / 2 && sale(rows[s][2 * took], rows[s][2 * took + 1]) > 0) {
            took++;
        }
        return took;
    }

    int undo() {
        if (sales.isEmpty()) {
            return -3;
        }
        sales.remove(sales.size() - 1);
        return sales.size();
    }

    int whose(int house, int k) {
        return !isHouse(house) || k < 0 || k > sales.size() ? -2 : behind(k, placesTold()).owner[house];
    }

    int keeper(int person, int k) {
        return !isPerson(person) || k < 0 || k > sales.size() ? -2 : behind(k, placesTold()).keeper[person];
    }

    int sold(int person, int k) {
        return !isPerson(person) || k < 0 || k > sales.size() ? -2 : behind(k, placesTold()).times[person];
    }

    int length(int sale) {
        return sale < 0 || sale >= sales.size() ? -2 : behind(sale + 1, placesTold()).length;
    }

    int worth(int to, int person, int v) {
        return set(worth, to, person, v);
    }

    int like(int person, int keeper, int v) {
        return set(liking, person, keeper, v);
    }

    private static int set(int[][] table, int a, int b, int v) {
        if (!isNumber(a) || !isNumber(b) || a == b || v < -9 || v > 9) {
            return ANY - 2;
        }
        int was = table[a][b];
        table[a][b] = v;
        return was;
    }

    int gain(int person) {
        return isPerson(person) ? gainBy(end(placesTold()), person, prices()) : ANY - 2;
    }

    int best(int person, int who) {
        if (!isPerson(person) || who != -1 && !isPerson(who)) {
            return ANY - 2;
        }
        if (people() > 4) {
            return ANY - 4;
        }
        int[] prices = prices();
        int most = Integer.MIN_VALUE;
        int[] row = {};
        for (int[] places : allPlaces()) {
            int gain = gainBy(end(places), person, prices);
            if (gain > most) {
                most = gain;
                row = places;
            }
        }
        return who == -1 ? most : row[who];
    }

    int rest(int who) {
        if (who < -2 || who >= people()) {
            return ANY - 2;
        }
        if (people() > 4) {
            return ANY - 4;
        }
        Map<String, State> ends = new HashMap<>();
        for (int[] places : allPlaces()) {
            ends.put(Arrays.toString(places), end(places));
        }
        int[] first = null;
        int count = 0;
        for (int[] places : allPlaces()) {
            if (isRest(places, ends)) {
                first = first == null ? places : first;
                count++;
            }
        }
        if (who == -2) {
            return count;
        }
        if (who == -1) {
            return first == null ? 0 : 1;
        }
        return first == null ? ANY - 3 : first[who];
    }

    private boolean isRest(int[] places, Map<String, State> ends) {
        for (int p = 0; p < places.length; p++) {
            if (kind(p) == 2) {
                if (places[p] != placeTold(p)) {
                    return false;
                }
                continue;
            }
            int here = likes(p, ends.get(Arrays.toString(places)));
            int[] other = places.clone();
            for (int at = STREET; at < houses(); at++) {
                other[p] = at;
                if (likes(p, ends.get(Arrays.toString(other))) > here) {
                    return false;
                }
            }
        }
        return true;
    }

    private int likes(int person, State state) {
        int keeper = state.keeper[person];
        return keeper == person ? 0 : liking[person][keeper];
    }

    int out(int person) {
        if (!isPerson(person)) {
            return -2;
        }
        if (!isTold(placeTold(person))) {
            return 0;
        }
        if (kind(person) == 2) {
            return -1;
        }
        // The street is a minute ahead of house 0, and a minute behind the last one.
        int fewest = 1000;
        for (int h = -1; h <= houses(); h++) {
            if (h == -1 || h == houses() || !isTold(h)) {
                fewest = Math.min(fewest, Math.abs(h - placeTold(person)));
            }
        }
        return fewest;
    }

    private boolean isTold(int house) {
        for (int[] sale : sales) {
            if (sale[0] == house) {
                return true;
            }
        }
        return false;
    }

    private int valueTo(int house, int person) {
        int sum = price(house);
        for (int p = 0; p < people(); p++) {
            sum += p != person && placeTold(p) == house ? worth[person][p] : 0;
        }
        return sum;
    }

    int value(int house, int person) {
        return isHouse(house) && isPerson(person) ? valueTo(house, person) : ANY - 2;
    }

    int change(int a, int b) {
        if (!isHouse(a) || !isHouse(b) || a == b) {
            return -2;
        }
        int x = owner(a);
        int y = owner(b);
        return x != y && valueTo(b, x) > valueTo(a, x) && valueTo(a, y) > valueTo(b, y) ? 1 : 0;
    }

    int changes() {
        int twice = 0;
        for (int a = 0; a < houses(); a++) {
            for (int b = 0; b < houses(); b++) {
                twice += a != b && change(a, b) == 1 ? 1 : 0;
            }
        }
        return twice / 2;
    }

    int should(int s) {
        if (s < 0 || s > 3) {
            return -2;
        }
        if (rows[s] == null) {
            return found(1);
        }
        if (houses() > 4) {
            return -4;
        }
        if (rows[s].length < houses()) {
            return -3;
        }
        int[] goal = Arrays.copyOf(rows[s], houses());
        for (int item : goal) {
            if (!isPerson(item)) {
                return -3;
            }
        }
        return fewestSales(start().owner, goal);
    }

    private int fewestSales(int[] from, int[] goal) {
        int[] places = placesTold();
        Map<String, Integer> steps = new HashMap<>();
        ArrayDeque<int[]> queue = new ArrayDeque<>();
        steps.put(Arrays.toString(from), 0);
        queue.add(from);
        while (!queue.isEmpty()) {
            int[] owners = queue.remove();
            int far = steps.get(Arrays.toString(owners));
            if (Arrays.equals(owners, goal)) {
                return far;
            }
            for (int h = 0; h < owners.length; h++) {
                for (int buyer = 0; buyer < places.length; buyer++) {
                    State state = start();
                    state.owner = owners.clone();
                    sell(state, h, buyer, places);
                    if (steps.putIfAbsent(Arrays.toString(state.owner), far + 1) == null) {
                        queue.add(state.owner);
                    }
                }
            }
        }
        return -1;
    }

    int come(int host, int invited) {
        if (!isPerson(host) || invited < 0 || invited > 255 || (invited & 1 << host) != 0) {
            return -2;
        }
        int bits = 0;
        for (int p = 0; p < people(); p++) {
            if ((invited & 1 << p) == 0) {
                continue;
            }
            int sum = liking[p][host];
            for (int q = 0; q < people(); q++) {
                sum += q != p && (invited & 1 << q) != 0 ? liking[p][q] : 0;
            }
            bits += sum >= 0 ? 1 << p : 0;
        }
        return bits;
    }

    int invite(int host, int wanted) {
        if (!isPerson(host) || wanted < 0 || wanted >= 1 << people() || (wanted & 1 << host) != 0) {
            return -2;
        }
        for (int many = 0; many <= people(); many++) {
            for (int bits = 0; bits < 1 << people(); bits++) {
                if (Integer.bitCount(bits) == many && (bits & 1 << host) == 0
                    && (come(host, bits) & wanted) == wanted) {
                    return bits;
                }
            }
        }
        return -1;
    }

    int fact(int person, int keeper) {
        if (!isNumber(person) || !isNumber(keeper)) {
            return -2;
        }
        if (facts.size() == 8) {
            return -4;
        }
        facts.add(new int[] {person, keeper});
        return facts.size();
    }

    int forget() {
        int had = facts.size();
        facts.clear();
        return had;
    }

    private List<int[]> ways() {
        List<int[]> ways = new ArrayList<>();
        for (int[] places : allPlaces()) {
            State state = end(places);
            boolean so = true;
            for (int[] fact : facts) {
                so = so && isPerson(fact[0]) && state.keeper[fact[0]] == fact[1];
            }
            if (so) {
                ways.add(places);
            }
        }
        return ways;
    }

    int were(int person) {
        if (person != -1 && !isPerson(person)) {
            return -2;
        }
        if (people() > 4) {
            return -4;
        }
        if (person == -1) {
            return ways().size();
        }
        int bits = 0;
        for (int[] places : ways()) {
            bits |= places[person] == STREET ? 1 << 8 : 1 << places[person];
        }
        return bits;
    }

    int bed() {
        if (people() > 4) {
            return -4;
        }
        int bits = 0;
        List<int[]> ways = ways();
        for (int p = 0; p < people(); p++) {
            boolean could = false;
            for (int[] places : ways) {
                could = could || places[p] == placeTold(p);
            }
            bits += could ? 0 : 1 << p;
        }
        return bits;
    }

    int sheet(int s, int form, int n) {
        if (s < 0 || s > 3 || form < 0 || form > 2 || n > 48) {
            return -2;
        }
        if (n < 0) {
            return found(5);
        }
        forms[s] = form;
        rows[s] = new int[n];
        return n;
    }

    int lose(int s) {
        if (s < 0 || s > 3) {
            return -2;
        }
        if (rows[s] == null) {
            return found(1);
        }
        int had = rows[s].length;
        rows[s] = null;
        return had;
    }

    int put(int s, int form, int i, int v) {
        if (s < 0 || s > 3 || form < 0 || form > 2) {
            return -2;
        }
        if (rows[s] == null) {
            return found(1);
        }
        if (forms[s] != form) {
            return found(3);
        }
        if (i < 0 || i >= rows[s].length) {
            return found(2);
        }
        rows[s][i] = form == 0 ? (byte) v : form == 1 ? (short) v : v;
        return 1;
    }

    int get(int s, int form, int i) {
        if (s < 0 || s > 3 || form < 0 || form > 2) {
            return Integer.MIN_VALUE;
        }
        if (rows[s] == null) {
            found(1);
        } else if (forms[s] != form) {
            found(3);
        } else if (i < 0 || i >= rows[s].length) {
            found(2);
        } else {
            return rows[s][i];
        }
        return Integer.MIN_VALUE;
    }

    int copy(int s, int i, int t, int j, int n) {
        if (s < 0 || s > 3 || t < 0 || t > 3) {
            return -2;
        }
        if (rows[s] == null || rows[t] == null) {
            return found(1);
        }
        if (forms[s] != forms[t]) {
            return found(4);
        }
        if (i < 0 || j < 0 || n < 0 || (long) i + n > rows[s].length || (long) j + n > rows[t].length) {
            return found(2);
        }
        int[] was = rows[s].clone();
        for (int k = 0; k < n; k++) {
            rows[t][j + k] = was[i + k];
        }
        return 1;
    }

    int write(int s) {
        if (s < 0 || s > 3) {
            return -2;
        }
        if (rows[s] == null) {
            return found(1);
        }
        int[] keepers = end(placesTold()).keeper;
        int n = Math.min(rows[s].length, keepers.length);
        for (int p = 0; p < n; p++) {
            rows[s][p] = keepers[p];
        }
        return n;
    }

    int count(int what) {
        switch (what) {
            case 0: return houses();
            case 1: return people();
            case 2: return texts[0].length();
            case 3: return texts[1].length();
            case 4: return sales.size();
            case 5: return facts.size();
            case 6: return Arrays.stream(end(placesTold()).times).sum();
            case 7: return (int) well(1).chars().filter(c -> c == 'l').count();
            case 8: return finding;
            default: return -2;
        }
    }

    long digest() {
        List<Integer> told = new ArrayList<>();
        for (int what = 0; what < 8; what++) {
            told.add(count(what));
        }
        told.add(fault(0));
        told.add(fault(1));
        for (int h = 0; h < houses(); h++) {
            told.addAll(List.of(house(h, 0), house(h, 1), house(h, 2), whose(h, sales.size())));
            for (int p = 0; p < people(); p++) {
                told.add(value(h, p));
            }
        }
        for (int p = 0; p < people(); p++) {
            int others = (1 << people()) - 1 - (1 << p);
            told.addAll(List.of(person(p, 0), person(p, 1), person(p, 2)));
            told.addAll(List.of(keeper(p, sales.size()), sold(p, sales.size())));
            told.addAll(List.of(gain(p), out(p), come(p, others)));
        }
        for (int i = 0; i < sales.size(); i++) {
            told.add(length(i));
        }
        told.add(changes());
        long h = 17;
        for (int v : told) {
            h = 31 * h + v;
        }
        return h;
    }

    private int found(int number) {
        finding = number;
        return -10 - number;
    }
}
