import java.math.BigInteger;
import java.util.ArrayList;
import java.util.HashSet;
import java.util.List;
import java.util.Set;
import java.util.TreeSet;

/**
 * The document's words once more, another way: leaves are objects in a list, rows are counted up
 * as numbers, orders are all gone through, a text's letter is wrong if no ending makes it right.
 */
final class Model {
    static final int UNKNOWN = -1, OUTSIDE = -2, STATE = -3, FULL = -4, NONE = -9;

    private static final class Leaf {
        int guest = -1;
    }

    private static final class State {
        final List<Leaf> leaves = new ArrayList<>();
        Leaf soup;
        int warmth;
        Set<Integer> served = new TreeSet<>();

        State copy() {
            State result = new State();
            for (Leaf leaf : leaves) {
                Leaf other = new Leaf();
                other.guest = leaf.guest;
                result.leaves.add(other);
                if (leaf == soup) {
                    result.soup = other;
                }
            }
            result.warmth = warmth;
            result.served = new TreeSet<>(served);
            return result;
        }

        int leafOf(int guest) {
            for (int i = 0; i < leaves.size(); i++) {
                if (leaves.get(i).guest == guest) {
                    return i;
                }
            }
            throw new IllegalStateException("no guest " + guest);
        }
    }

    private String text = "";
    private int[][] guests = {};
    private int warm = 1;
    private int reach = 1;
    private State now = empty(1, 1);
    private final List<State> acts = new ArrayList<>();
    private final State[] kept = new State[2];
    private final List<int[]> dinners = new ArrayList<>();
    private BigInteger seed = BigInteger.ZERO;

    private static State empty(int length, int warm) {
        State result = new State();
        for (int i = 0; i < length; i++) {
            result.leaves.add(new Leaf());
        }
        result.soup = result.leaves.get(0);
        result.warmth = warm;
        return result;
    }

    // ---- the table

    int write(int letter) {
        if (letter < 0 || letter > 255) {
            return OUTSIDE;
        }
        if (text.length() == 40) {
            return FULL;
        }
        text += (char) letter;
        return text.length();
    }

    int wipe() {
        int was = text.length();
        text = "";
        return was;
    }

    static boolean isTable(String text) {
        if (!text.matches("T[0-9][0-9][1-9][1-9](G[0-9][0-9][0-3][0-9][0-3]){0,5}")) {
            return false;
        }
        int length = Integer.parseInt(text.substring(1, 3));
        Set<Integer> taken = new HashSet<>();
        for (int i = 5; i < text.length(); i += 6) {
            int leaf = Integer.parseInt(text.substring(i + 1, i + 3));
            if (leaf >= length || !taken.add(leaf)) {
                return false;
            }
        }
        return length >= 1 && length <= 30;
    }

    /** Whether something can come behind the text so that it is a table. */
    private static boolean canBecomeTable(String text) {
        if (isTable(text)) {
            return true;
        }
        int place = text.length();
        String pattern = place < 5 ? "T##11" : "G##000";
        int part = place < 5 ? place : (place - 5) % 6;
        if (part == 0 && place >= 5) {
            return false;
        }
        List<String> endings = new ArrayList<>();
        endings.add("");
        for (int i = part; i < pattern.length(); i++) {
            List<String> longer = new ArrayList<>();
            for (String ending : endings) {
                for (char c = '0'; c <= '9'; c++) {
                    longer.add(ending + (pattern.charAt(i) == '#' ? c : pattern.charAt(i)));
                }
            }
            endings = new ArrayList<>(new HashSet<>(longer));
        }
        for (String ending : endings) {
            if (isTable(text + ending)) {
                return true;
            }
        }
        return false;
    }

    int fault() {
        for (int i = 1; i <= text.length(); i++) {
            if (!canBecomeTable(text.substring(0, i))) {
                return i - 1;
            }
        }
        return isTable(text) ? NONE : text.length();
    }

    int lay() {
        if (fault() != NONE) {
            return STATE;
        }
        warm = text.charAt(3) - '0';
        reach = text.charAt(4) - '0';
        now = empty(Integer.parseInt(text.substring(1, 3)), warm);
        guests = new int[(text.length() - 5) / 6][];
        for (int i = 0; i < guests.length; i++) {
            String told = text.substring(5 + 6 * i, 11 + 6 * i);
            guests[i] = new int[] {told.charAt(3) - '0', told.charAt(4) - '0', told.charAt(5) - '0'};
            now.leaves.get(Integer.parseInt(told.substring(1, 3))).guest = i;
        }
        acts.clear();
        kept[0] = null;
        kept[1] = null;
        return guests.length;
    }

    private boolean isNoGuest(int guest) {
        return guest < 0 || guest >= guests.length;
    }

    int guest(int guest, int what) {
        if (isNoGuest(guest)) {
            return UNKNOWN;
        }
        if (what < 0 || what > 5) {
            return OUTSIDE;
        }
        if (what == 0) {
            return now.leafOf(guest);
        }
        if (what <= 3) {
            return guests[guest][what - 1];
        }
        return (what == 4 ? now.served : hearers(now)).contains(guest) ? 1 : 0;
    }

    private Set<Integer> hearers(State state) {
        Set<Integer> result = new TreeSet<>();
        int last = 0;
        for (int i = 0; i < state.leaves.size(); i++) {
            int guest = state.leaves.get(i).guest;
            if (guest >= 0) {
                if (i - last > reach) {
                    break;
                }
                result.add(guest);
                last = i;
            }
        }
        return result;
    }

    // ---- acts

    /** The state behind what a guest says; null: it can not. */
    private State said(State state, int guest) {
        if (isNoGuest(guest)) {
            return null;
        }
        State next = state.copy();
        int own = next.leafOf(guest);
        int kind = guests[guest][0];
        if (kind == 1) {
            if (own + 1 >= next.leaves.size() || next.leaves.get(own + 1).guest >= 0) {
                return null;
            }
            if (next.leaves.remove(own + 1) == next.soup) {
                next.soup = next.leaves.get(own);
            }
        }
        for (int i = 0; i < (kind == 0 ? 1 : kind == 2 ? 2 : 0); i++) {
            next.leaves.add(own + 1, new Leaf());
        }
        return next.leaves.size() > 60 ? null : next;
    }

    private State passed(State state, int guest) {
        State next = state.copy();
        int to = next.leafOf(guest);
        int from = next.leaves.indexOf(next.soup);
        next.soup = next.leaves.get(to);
        next.warmth = Math.max(0, next.warmth - (to > from ? to - from : from - to));
        if (next.warmth >= guests[guest][1]) {
            next.served.add(guest);
        }
        return next;
    }

    private State fetched(State state) {
        State next = state.copy();
        next.soup = next.leaves.get(0);
        next.warmth = warm;
        return next;
    }

    private void act(State next) {
        acts.add(now);
        if (acts.size() > 14) {
            acts.remove(0);
        }
        now = next;
    }

    int say(int guest) {
        if (isNoGuest(guest)) {
            return UNKNOWN;
        }
        State next = said(now, guest);
        if (next == null) {
            return STATE;
        }
        act(next);
        return now.leaves.size();
    }

    int pass(int guest) {
        if (isNoGuest(guest)) {
            return UNKNOWN;
        }
        act(passed(now, guest));
        return now.warmth;
    }

    int fetch() {
        int was = now.warmth;
        act(fetched(now));
        return was;
    }

    int undo() {
        if (acts.isEmpty()) {
            return STATE;
        }
        now = acts.remove(acts.size() - 1);
        return acts.size();
    }

    // ---- plans

    /** The guests of a row told as a number, 1 more each; null: it is no such row. */
    private int[] guestsOf(int row, boolean once) {
        String figures = row == 0 ? "" : Integer.toString(row);
        int[] result = new int[figures.length()];
        Set<Integer> used = new HashSet<>();
        for (int i = 0; i < result.length; i++) {
            result[i] = figures.charAt(i) - '1';
            if (isNoGuest(result[i]) || once && !used.add(result[i])) {
                return null;
            }
        }
        return result;
    }

    private int[] most(State state, Set<Integer> present) {
        int[] best = {-1, 0};
        int last = guests.length == 0 ? 0 : Integer.parseInt("54321".substring(5 - guests.length));
        for (int row = 0; row <= last; row++) {
            int[] order = guestsOf(row, true);
            if (order == null) {
                continue;
            }
            State end = state;
            boolean areAllPresent = true;
            for (int guest : order) {
                areAllPresent &= present.contains(guest);
            }
            if (!areAllPresent) {
                continue;
            }
            for (int guest : order) {
                end = passed(end, guest);
            }
            if (end.served.size() > best[0]) {
                best = new int[] {end.served.size(), row};
            }
        }
        return best;
    }

    private Set<Integer> everybody() {
        Set<Integer> result = new TreeSet<>();
        for (int i = 0; i < guests.length; i++) {
            result.add(i);
        }
        return result;
    }

    int passes(boolean row) {
        return most(now, everybody())[row ? 1 : 0];
    }

    private int fewest(int goal, boolean row) {
        for (int number = 0; number <= 5555; number++) {
            int[] speakers = guestsOf(number, false);
            if (speakers == null) {
                continue;
            }
            State end = now;
            for (int speaker : speakers) {
                end = end == null ? null : said(end, speaker);
            }
            if (end != null && (goal == 0 ? hearers(end).size() == guests.length : end.leaves.size() == goal)) {
                return row ? number : speakers.length;
            }
        }
        return NONE;
    }

    int longBy(int n, boolean row) {
        return n < 1 || n > 60 ? OUTSIDE : fewest(n, row);
    }

    int together(boolean row) {
        return fewest(0, row);
    }

    private static String figures(int n, int row) {
        if (n < 1 || n > 6 || row < 0) {
            return null;
        }
        String result = String.format("%0" + n + "d", row);
        return result.length() > n ? null : result;
    }

    int judge(int n, int row) {
        String things = figures(n, row);
        if (things == null) {
            return OUTSIDE;
        }
        State state = now;
        for (int i = 0; i < n; i++) {
            int thing = things.charAt(i) - '0';
            if (thing < 5) {
                state = said(state, thing);
            } else if (thing == 5 && guests.length > 0) {
                int at = state.leaves.size() - 1;
                while (state.leaves.get(at).guest < 0) {
                    at--;
                }
                state = passed(state, state.leaves.get(at).guest);
            } else {
                state = thing == 6 ? fetched(state) : null;
            }
            if (state == null || state.warmth == 0) {
                return i;
            }
        }
        return NONE;
    }

    private static int told(BigInteger above, BigInteger below, boolean upper) {
        BigInteger divisor = above.gcd(below);
        return (upper ? above : below).divide(divisor).intValueExact();
    }

    private long orders;
    private long gained;

    private void comeInOrder(Set<Integer> come, int before, int guest, State fresh) {
        if (come.size() == guests.length) {
            orders++;
            return;
        }
        for (int next = 0; next < guests.length; next++) {
            if (come.contains(next)) {
                continue;
            }
            Set<Integer> more = new TreeSet<>(come);
            more.add(next);
            int after = most(fresh, more)[0];
            long ordersBefore = orders;
            comeInOrder(more, after, guest, fresh);
            if (next == guest) {
                gained += (orders - ordersBefore) * (after - before);
            }
        }
    }

    int share(int guest, boolean upper) {
        if (isNoGuest(guest)) {
            return UNKNOWN;
        }
        State fresh = now.copy();
        fresh.served.clear();
        orders = 0;
        gained = 0;
        comeInOrder(new TreeSet<>(), 0, guest, fresh);
        return told(BigInteger.valueOf(gained), BigInteger.valueOf(orders), upper);
    }

    // ---- words

    private int word(int n, int word, int sign) {
        String figures = figures(n, word);
        if (figures == null || !figures.matches("[0-3]+")) {
            return OUTSIDE;
        }
        for (int guest : hearers(now)) {
            StringBuilder heard = new StringBuilder();
            for (char c : figures.toCharArray()) {
                heard.append((c - '0' + 4 + sign * guests[guest][2]) % 4);
            }
            figures = heard.toString();
        }
        return Integer.parseInt(figures);
    }

    int comes(int n, int word) {
        return word(n, word, 1);
    }

    int spoken(int n, int word) {
        return word(n, word, -1);
    }

    // ---- laws

    int dine(int spoke, int v) {
        if (spoke < 0 || spoke > 9999 || v < -40 || v > 40) {
            return OUTSIDE;
        }
        if (dinners.size() == 6) {
            return FULL;
        }
        dinners.add(new int[] {spoke, v});
        return dinners.size();
    }

    int clear() {
        int were = dinners.size();
        dinners.clear();
        return were;
    }

    int laws(int what) {
        if (what < 0 || what > 2) {
            return OUTSIDE;
        }
        List<int[]> found = new ArrayList<>();
        for (int a = -1; a <= 2; a++) {
            for (int b = -1; b <= 2; b++) {
                for (int c = -1; c <= 2; c++) {
                    for (int d = -1; d <= 2; d++) {
                        boolean areAllSo = true;
                        for (int[] dinner : dinners) {
                            String s = String.format("%04d", dinner[0]);
                            areAllSo &= a * (s.charAt(0) - '0') + b * (s.charAt(1) - '0')
                                + c * (s.charAt(2) - '0') + d * (s.charAt(3) - '0') == dinner[1];
                        }
                        if (areAllSo) {
                            found.add(new int[] {a, b, c, d});
                        }
                    }
                }
            }
        }
        if (what == 0) {
            return found.size();
        }
        if (found.isEmpty()) {
            return NONE;
        }
        int[] first = found.get(0);
        int bits = 0;
        for (int kind = 0; kind < 4; kind++) {
            Set<Integer> changes = new HashSet<>();
            for (int[] law : found) {
                changes.add(law[kind]);
            }
            bits += changes.size() == 1 ? 1 << kind : 0;
        }
        return what == 2 ? bits : (first[0] + 1) * 1000 + (first[1] + 1) * 100 + (first[2] + 1) * 10 + first[3] + 1;
    }

    // ---- hosts, chances

    /** The length at last and the speaker of this turn. */
    private int[] turn(State state, int turns, boolean isFirst) {
        if (turns == 0) {
            return new int[] {state.leaves.size(), 0};
        }
        int[] best = {turn(state, turns - 1, !isFirst)[0], 0};
        for (int i = 0; i < guests.length; i++) {
            State next = said(state, i);
            if (next != null) {
                int length = turn(next, turns - 1, !isFirst)[0];
                if (isFirst ? length > best[0] : length < best[0]) {
                    best = new int[] {length, i + 1};
                }
            }
        }
        return best;
    }

    int hosts(int n, boolean first) {
        return n < 1 || n > 4 ? OUTSIDE : turn(now, n, true)[first ? 1 : 0];
    }

    private BigInteger chance(State state, int guest, int x, int n) {
        if (guest == guests.length) {
            return state.leaves.size() >= n ? BigInteger.ONE : BigInteger.ZERO;
        }
        State next = said(state, guest);
        BigInteger come = chance(next == null ? state : next, guest + 1, x, n);
        BigInteger stay = chance(state, guest + 1, x, n);
        return come.multiply(BigInteger.valueOf(x)).add(stay.multiply(BigInteger.valueOf(10 - x)));
    }

    int come(int x, int n, boolean upper) {
        if (x < 0 || x > 10 || n < 1 || n > 60) {
            return OUTSIDE;
        }
        return told(chance(now, 0, x, n), BigInteger.TEN.pow(guests.length), upper);
    }

    long seed(long v) {
        long was = seed.longValue();
        seed = BigInteger.valueOf(v).mod(BigInteger.ONE.shiftLeft(64));
        return was;
    }

    int dinner(int m) {
        if (m < 1 || m > 30) {
            return OUTSIDE;
        }
        State state = now;
        for (int i = 0; i < m; i++) {
            seed = seed.multiply(new BigInteger("6364136223846793005"))
                .add(new BigInteger("1442695040888963407")).mod(BigInteger.ONE.shiftLeft(64));
            State next = said(state, seed.shiftRight(33).mod(BigInteger.valueOf(6)).intValue());
            state = next == null ? state : next;
        }
        return state.leaves.size();
    }

    // ---- slots

    int keep(int slot) {
        if (slot != 0 && slot != 1) {
            return UNKNOWN;
        }
        kept[slot] = now;
        return now.leaves.size();
    }

    int again(int slot) {
        if (slot != 0 && slot != 1) {
            return UNKNOWN;
        }
        if (kept[slot] == null) {
            return STATE;
        }
        now = kept[slot];
        acts.clear();
        return now.leaves.size();
    }

    private static int bits(Set<Integer> set) {
        int result = 0;
        for (int i : set) {
            result += 1 << i;
        }
        return result;
    }

    int count(int what) {
        int[] counts = {text.length(), guests.length, now.leaves.size(), reach, now.leaves.indexOf(now.soup),
            now.warmth, bits(now.served), bits(hearers(now)), acts.size(), dinners.size(), warm};
        return what < 0 || what >= counts.length ? OUTSIDE : counts[what];
    }
}
