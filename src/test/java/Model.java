import java.util.ArrayList;
import java.util.List;
import java.util.TreeMap;
import java.util.regex.Matcher;
import java.util.regex.Pattern;

/**
 * The document once more, in another form than the program: strings are entries of lists, states are copied
 * whole, texts are matched by a pattern. It is slow and makes many objects, and answers what is due.
 */
final class Model {
    static final int NO_SUCH = -100001, BAD_VALUE = -100002, BAD_TEXT = -100003, TOO_MANY = -100004;
    static final int NOT_POSSIBLE = -100005, NONE = -100006;

    private static final int[][] RANGES = {
        {2, 20}, {0, 99}, {0, 9}, {1, 20}, {0, 30}, {0, 500}, {0, 50}, {0, 100}, {0, 100}};
    private static final String WANT = "[0-7]:(?:[1-9]|1[0-9]|20)";
    private static final String PART = "[a-f]" + WANT + "(?:," + WANT + ")*";
    private static final Pattern TEXT = Pattern.compile(PART + "(?:;" + PART + ")*");

    /** A string of a member: its own, or one that it wants. */
    private record Piece(int member, int gauge) {
        int price() {
            return 10 + 5 * gauge;
        }
    }

    private static final class Box {
        List<Piece> pieces = new ArrayList<>();
        int value;
        int dueIn;
        boolean opened;

        Box copy() {
            Box copy = new Box();
            copy.pieces = new ArrayList<>(pieces);
            copy.value = value;
            copy.dueIn = dueIn;
            copy.opened = opened;
            return copy;
        }
    }

    private static final class State {
        TreeMap<String, Integer> numbers = new TreeMap<>();
        List<Box> boxes = new ArrayList<>();
        long x = 1;

        State copy() {
            State copy = new State();
            copy.numbers = new TreeMap<>(numbers);
            for (Box box : boxes) {
                copy.boxes.add(box.copy());
            }
            copy.x = x;
            return copy;
        }

        int get(String name) {
            return numbers.getOrDefault(name, 0);
        }

        void add(String name, int more) {
            numbers.merge(name, more, Integer::sum);
        }

        int sum(String beginning) {
            int sum = 0;
            for (var entry : numbers.entrySet()) {
                sum += entry.getKey().startsWith(beginning) ? entry.getValue() : 0;
            }
            return sum;
        }

        int draw(int below) {
            x = (x * 1103515245L + 12345L) & 0x7fffffffL;
            return (int) ((x >> 16) % below);
        }
    }

    private State now = new State();
    private final List<State> history = new ArrayList<>();
    private final State[] slots = new State[2];
    private String pad = "";

    Model() {
        int[] first = {5, 20, 1, 5, 7, 100, 20, 50, 20};
        for (int s = 0; s < 9; s++) {
            now.numbers.put("set" + s, first[s]);
        }
    }

    private static boolean out(int number, int from, int to) {
        return number < from || number > to;
    }

    private void record() {
        history.add(now.copy());
        if (history.size() > 6) {
            history.remove(0);
        }
    }

    private static String spare(int member, int gauge) {
        return "spare" + member + "." + gauge;
    }

    private static String wants(int member, int gauge) {
        return "want" + member + "." + gauge;
    }

    // ---- orders

    private List<Piece> wanted(int members) {
        List<Piece> pieces = new ArrayList<>();
        for (int member = 0; member < 6; member++) {
            for (int gauge = 0; gauge < 8 && (members & 1 << member) != 0; gauge++) {
                for (int i = now.get(wants(member, gauge)); i > 0; i--) {
                    pieces.add(new Piece(member, gauge));
                }
            }
        }
        return pieces;
    }

    private int priceIn(List<Piece> order, Piece piece) {
        long same = order.stream().filter(p -> p.gauge == piece.gauge).count();
        return same >= now.get("set0") ? piece.price() - piece.price() / 5 : piece.price();
    }

    private int value(List<Piece> order) {
        return order.stream().mapToInt(p -> priceIn(order, p)).sum();
    }

    private int post(List<Piece> order) {
        int weight = order.stream().mapToInt(p -> p.gauge + 1).sum();
        return order.isEmpty() ? 0 : now.get("set1") + now.get("set2") * weight;
    }

    private int cost(List<Piece> order) {
        return value(order) + post(order);
    }

    private static int duty(State state, int value) {
        return value <= state.get("set5") ? 0 : (value - state.get("set5")) * state.get("set6") / 100;
    }

    private static int[] shares(int amount, int[] parts) {
        int whole = 0;
        for (int part : parts) {
            whole += part;
        }
        int[] shares = new int[6];
        int given = 0;
        for (int m = 0; m < 6 && whole > 0; m++) {
            shares[m] = (int) ((long) amount * parts[m] / whole);
            given += shares[m];
        }
        for (int m = 0; given < amount && m < 6; m++) {
            if (parts[m] > 0) {
                shares[m]++;
                given++;
            }
        }
        return shares;
    }

    private int[] postShares(List<Piece> order) {
        int[] parts = new int[6];
        order.forEach(p -> parts[p.member] += p.gauge + 1);
        return shares(post(order), parts);
    }

    private int own(List<Piece> order, int member) {
        return order.stream().filter(p -> p.member == member).mapToInt(p -> priceIn(order, p)).sum();
    }

    // ---- changes

    int set(int setting, int value) {
        if (out(setting, 0, 8) || out(value, RANGES[setting][0], RANGES[setting][1])) {
            return BAD_VALUE;
        }
        record();
        return now.numbers.put("set" + setting, value);
    }

    private String harp(int member, int string) {
        return "broken" + member + "." + string;
    }

    int snap(int member, int string) {
        if (out(member, 0, 5) || out(string, 0, 7)) {
            return NO_SUCH;
        }
        if (now.get(harp(member, string)) == 1) {
            return NOT_POSSIBLE;
        }
        record();
        now.numbers.put(harp(member, string), 1);
        return now.sum("broken" + member);
    }

    int fit(int member, int string, int gauge) {
        if (out(member, 0, 5) || out(string, 0, 7) || out(gauge, 0, 7)) {
            return NO_SUCH;
        }
        boolean isWhole = now.get(harp(member, string)) == 0;
        if (isWhole || out(gauge, string - 1, string + 1) || now.get(spare(member, gauge)) == 0) {
            return NOT_POSSIBLE;
        }
        record();
        now.numbers.put(harp(member, string), 0);
        now.add(spare(member, gauge), -1);
        return now.get(spare(member, gauge));
    }

    int want(int member, int gauge, int many) {
        if (out(member, 0, 5) || out(gauge, 0, 7)) {
            return NO_SUCH;
        }
        if (out(many, 0, 20)) {
            return BAD_VALUE;
        }
        record();
        now.numbers.put(wants(member, gauge), many);
        return cost(wanted(63));
    }

    int read() {
        if (fault() != NONE) {
            return BAD_TEXT;
        }
        record();
        for (String part : pad.split(";")) {
            for (String want : part.substring(1).split(",")) {
                String name = wants(part.charAt(0) - 'a', want.charAt(0) - '0');
                int many = now.get(name) + Integer.parseInt(want.substring(2));
                now.numbers.put(name, Math.min(many, 20));
            }
        }
        pad = "";
        return cost(wanted(63));
    }

    int pay(int member, int pence) {
        if (out(member, 0, 5)) {
            return NO_SUCH;
        }
        if (out(pence, 1, 1000)) {
            return BAD_VALUE;
        }
        record();
        now.add("account" + member, pence);
        return now.get("account" + member);
    }

    int give(int member, int other, int gauge, int many) {
        if (out(member, 0, 5) || out(other, 0, 5) || out(gauge, 0, 7)) {
            return NO_SUCH;
        }
        if (member == other || out(many, 1, 20)) {
            return BAD_VALUE;
        }
        if (now.get(spare(member, gauge)) < many || now.get(spare(other, gauge)) + many > 99) {
            return NOT_POSSIBLE;
        }
        record();
        for (int i = 0; i < many; i++) {
            int price = new Piece(member, gauge).price();
            now.add(spare(member, gauge), -1);
            now.add(spare(other, gauge), 1);
            now.add("account" + member, price);
            now.add("account" + other, -price);
        }
        return now.get("account" + member);
    }

    int send(int members) {
        if (out(members, 1, 63)) {
            return BAD_VALUE;
        }
        List<Piece> order = wanted(members);
        if (order.isEmpty() || cost(order) > now.sum("account")) {
            return NOT_POSSIBLE;
        }
        if (now.boxes.size() == 5) {
            return TOO_MANY;
        }
        record();
        int[] posts = postShares(order);
        for (int m = 0; m < 6; m++) {
            now.add("account" + m, -own(order, m) - posts[m]);
            now.add("strings" + m, own(order, m));
            now.add("post" + m, posts[m]);
        }
        Box box = new Box();
        box.pieces.addAll(order);
        box.value = value(order);
        box.dueIn = now.get("set3");
        now.boxes.add(box);
        int cost = cost(order);
        order.forEach(p -> now.numbers.put(wants(p.member, p.gauge), 0));
        return cost;
    }

    int pass(int days) {
        if (out(days, 1, 60)) {
            return BAD_VALUE;
        }
        if (now.get("day") + days > 9999) {
            return TOO_MANY;
        }
        record();
        int before = now.boxes.size();
        for (int i = 0; i < days; i++) {
            begin(now);
        }
        return before - now.boxes.size();
    }

    private static void begin(State state) {
        state.add("day", 1);
        List<Box> due = new ArrayList<>();
        for (Box box : state.boxes) {
            box.dueIn--;
            if (box.dueIn == 0) {
                due.add(box);
            }
        }
        for (Box box : due) {
            boolean isHome = box.opened || state.draw(100) >= state.get("set7");
            if (!isHome) {
                open(state, box);
                isHome = box.dueIn == 0;
            }
            if (isHome) {
                state.boxes.remove(box);
                box.pieces.forEach(p -> home(state, p));
            }
        }
    }

    private static void home(State state, Piece piece) {
        if (state.get(spare(piece.member, piece.gauge)) == 99) {
            state.add("lost" + piece.member, 1);
        } else {
            state.add(spare(piece.member, piece.gauge), 1);
        }
    }

    private static void open(State state, Box box) {
        box.opened = true;
        box.dueIn = state.get("set4");
        state.add("opened", 1);
        int[] parts = new int[6];
        box.pieces.forEach(p -> parts[p.member] += p.price());
        int[] duties = shares(duty(state, box.value), parts);
        for (int m = 0; m < 6; m++) {
            state.add("account" + m, -duties[m]);
            state.add("duty" + m, duties[m]);
        }
        if (state.draw(100) < state.get("set8")) {
            Piece gone = box.pieces.remove(state.draw(box.pieces.size()));
            state.add("lost" + gone.member, 1);
        }
    }

    int shuffle(int number) {
        if (number < 0) {
            return BAD_VALUE;
        }
        record();
        int previous = (int) now.x;
        now.x = number;
        return previous;
    }

    // ---- what there is

    int member(int member, int what) {
        if (out(member, 0, 5)) {
            return NO_SUCH;
        }
        String[] names = {"account", "", "spare", "want", "", "strings", "post", "duty", "lost"};
        if (out(what, 0, 8)) {
            return BAD_VALUE;
        }
        int sum = 0;
        if (what == 1) {
            for (int string = 0; string < 8; string++) {
                sum += now.get(harp(member, string)) << string;
            }
            return sum;
        }
        if (what == 4) {
            for (Box box : now.boxes) {
                sum += (int) box.pieces.stream().filter(p -> p.member == member).count();
            }
            return sum;
        }
        return now.sum(names[what] + member);
    }

    int strings(int member, int gauge, boolean isWanted) {
        if (out(member, 0, 5) || out(gauge, 0, 7)) {
            return NO_SUCH;
        }
        return now.get(isWanted ? wants(member, gauge) : spare(member, gauge));
    }

    int parcel(int parcel, int what) {
        if (out(parcel, 0, now.boxes.size() - 1)) {
            return NO_SUCH;
        }
        Box box = now.boxes.get(parcel);
        int owners = 0;
        for (Piece piece : box.pieces) {
            owners |= 1 << piece.member;
        }
        int[] answers = {box.pieces.size(), box.value, owners, box.dueIn, box.opened ? 1 : 0};
        return out(what, 0, 4) ? BAD_VALUE : answers[what];
    }

    int count(int what) {
        if (!out(what, 0, 8)) {
            return now.get("set" + what);
        }
        int[] answers = {now.get("day"), now.sum("account"), now.boxes.size(), now.get("opened"),
            now.sum("duty"), now.sum("lost"), now.sum("broken"), (int) now.x, pad.length(), history.size()};
        return out(what, 9, 18) ? BAD_VALUE : answers[what - 9];
    }

    // ---- what if

    int order(int members, int what) {
        if (out(members, 0, 63) || out(what, 0, 4)) {
            return BAD_VALUE;
        }
        List<Piece> order = wanted(members);
        int[] answers = {cost(order), value(order), post(order), order.size(), duty(now, value(order))};
        return answers[what];
    }

    int share(int members, int member) {
        if (out(member, 0, 5)) {
            return NO_SUCH;
        }
        if (out(members, 0, 63)) {
            return BAD_VALUE;
        }
        List<Piece> order = wanted(members);
        return own(order, member) + postShares(order)[member];
    }

    int ifMore(int member, int gauge, int many) {
        if (out(member, 0, 5) || out(gauge, 0, 7)) {
            return NO_SUCH;
        }
        if (out(many, 1, 20)) {
            return BAD_VALUE;
        }
        List<Piece> order = wanted(63);
        int before = cost(order);
        for (int i = 0; i < many; i++) {
            order.add(new Piece(member, gauge));
        }
        return cost(order) - before;
    }

    int bestParting(int what) {
        if (out(what, 0, 1)) {
            return BAD_VALUE;
        }
        int[] alone = new int[64];
        for (int members = 0; members < 64; members++) {
            List<Piece> order = wanted(members);
            alone[members] = cost(order) + duty(now, value(order));
        }
        int best = 0;
        for (int members = 0; members < 64; members++) {
            if (alone[members] + alone[63 ^ members] < alone[best] + alone[63 ^ best]) {
                best = members;
            }
        }
        return what == 0 ? best : alone[best] + alone[63 ^ best];
    }

    int standIn(int member, int string) {
        if (out(member, 0, 5) || out(string, 0, 7)) {
            return NO_SUCH;
        }
        for (int gauge : new int[] {string, string - 1, string + 1}) {
            if (now.get(harp(member, string)) == 1 && now.get(spare(member, gauge)) > 0) {
                return gauge;
            }
        }
        return NONE;
    }

    int untilHome() {
        State later = now.copy();
        int days = 0;
        while (!later.boxes.isEmpty()) {
            begin(later);
            days++;
        }
        return days;
    }

    // ---- texts

    int put(long characters) {
        String text = "";
        long rest = characters;
        for (int i = 0; i < 8 && (rest & 255) != 0; i++) {
            if (out((int) (rest & 255), 33, 126)) {
                return BAD_VALUE;
            }
            text = (char) (rest & 255) + text;
            rest >>>= 8;
        }
        if (rest != 0 || text.isEmpty()) {
            return BAD_VALUE;
        }
        if (pad.length() + text.length() > 60) {
            return TOO_MANY;
        }
        pad += text;
        return pad.length();
    }

    int wipe() {
        int length = pad.length();
        pad = "";
        return length;
    }

    int fault() {
        for (int length = 1; length <= pad.length(); length++) {
            Matcher matcher = TEXT.matcher(pad.substring(0, length));
            if (!matcher.matches() && !matcher.hitEnd()) {
                return length - 1;
            }
        }
        return TEXT.matcher(pad).matches() ? NONE : pad.length();
    }

    // ---- undo, saving

    int undo() {
        if (history.isEmpty()) {
            return NOT_POSSIBLE;
        }
        now = history.remove(history.size() - 1);
        return history.size();
    }

    int save(int slot) {
        if (out(slot, 0, 1)) {
            return BAD_VALUE;
        }
        slots[slot] = now.copy();
        return now.get("day");
    }

    int restore(int slot) {
        if (out(slot, 0, 1)) {
            return BAD_VALUE;
        }
        if (slots[slot] == null) {
            return NOT_POSSIBLE;
        }
        record();
        now = slots[slot].copy();
        return now.get("day");
    }
}
